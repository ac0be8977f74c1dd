/-! ===== the class's reckoner: the best claim ===== -/
theorem smA_front (F : Nat → Int64) : ∀ (n s : Nat), smA F s (n + 1) = F s + smA F (s + 1) n
  | 0, s => by
    show (0 : Int64) + F (s + 0) = F s + 0
    rw [Int64.zero_add, Int64.add_zero]; rfl
  | n + 1, s => by
    rw [smA_s F s (n + 1), smA_front F n s, smA_s F (s + 1) n, Int64.add_assoc, show s + (n + 1) = s + 1 + n by omega]
theorem lvS_lk {w w' : Nat → Int32} (hl : Lk w w') {age : Int32} : ∀ k, lvS w' age k = lvS w age k
  | 0 => rfl
  | k + 1 => by
    have ih := lvS_lk hl (age := age) k
    unfold lvS
    rw [ih, hl (67 + 2 * k) (by omega), hl (68 + 2 * k) (by omega)]
theorem lvs_lk {w w' : Nat → Int32} (hl : Lk w w') (age : Int32) : lvs w' age = lvs w age := by
  unfold lvs
  have eY : cY w' = cY w := by unfold cY; rw [hl 5 (by omega)]
  rw [eY, lvS_lk hl]
theorem od_lk {w w' : Nat → Int32} (hl : Lk w w') (b t : Int32) (m : Nat) : od w' b t m = od w b t m := by
  unfold od; rw [lvs_lk hl, lvs_lk hl]
theorem dsc_lk {w w' : Nat → Int32} (hl : Lk w w') (m : Nat) : dsc w' m = dsc w m := dsc_cg (fun j hj => hl j (Or.inl hj)) m
theorem ann_lk {w w' : Nat → Int32} (hl : Lk w w') (b : Int32) (t s : Nat) : ann w' b t s = ann w b t s := by
  unfold ann
  exact smA_congr _ (fun m _ _ => by rw [dsc_lk hl, od_lk hl])
theorem rT_lk {w w' : Nat → Int32} (hl : Lk w w') : rT w' = rT w := by unfold rT; rw [hl 1 (by omega)]
theorem wap_lk {w w' : Nat → Int32} (hl : Lk w w') (b : Int32) (x : Int64) (t s : Nat) : wap w' b x t s = wap w b x t s := by
  unfold wap
  exact smA_congr _ (fun m _ _ => by rw [dsc_lk hl, od_lk hl])
/-- a row that claims in c -/
theorem cl_beg {w : Nat → Int32} (hv : Vld w) (h1 : ¬ w 1 = -1) {k c : Nat} (hk : k < 4) (hc : rT w ≤ c) (hc2 : c < 1800) : beg (upd w (41 + 8 * k) (nI c)) k = nI c ∧ bT (upd w (41 + 8 * k) (nI c)) k = c := by
  obtain ⟨r1, r2, r3, r4⟩ := hv.r h1
  have e : beg (upd w (41 + 8 * k) (nI c)) k = nI c := by
    unfold beg
    rw [upd_n (show 1 ≠ 41 + 8 * k by omega), upd_s, if_neg h1, if_pos (by rw [r1, nI_leI (by omega) (by omega)]; exact hc)]
  exact ⟨e, nI_t e (by omega)⟩
theorem cl_own {w : Nat → Int32} (hv : Vld w) (h1 : ¬ w 1 = -1) {k c : Nat} (hk : k < cP w) (hc : rT w ≤ c) (hc2 : c < 1800) (hpt : ¬ w (37 + 8 * k) = -1) (hb : ¬ w 1 < w 0) (hb2 : ¬ w 1 < w (35 + 8 * k)) : own (upd w (41 + 8 * k) (nI c)) k = ownB (shr w k (rT w)) (ann w (w 0) (rT w) (rT w)) (ann w (w (35 + 8 * k)) (rT w) c) := by
  have hk4 := hv.p4 hk
  have hl : Lk w (upd w (41 + 8 * k) (nI c)) := Lk.upd (by omega) (by omega)
  have nn : ∀ j, j ≠ 41 + 8 * k → upd w (41 + 8 * k) (nI c) j = w j := fun j hj => upd_n hj
  unfold own
  rw [(cl_beg hv h1 hk4 hc hc2).2, rT_lk hl, ann_lk hl, ann_lk hl, nn 1 (by omega), nn 0 (by omega), nn (37 + 8 * k) (by omega), nn (35 + 8 * k) (by omega), shr_lk hv.c hl (nn _ (by omega)) (nn _ (by omega)) (nn _ (by omega)), if_neg h1, if_neg hpt, if_neg hb, if_neg hb2]
theorem cl_wsp {w : Nat → Int32} (hv : Vld w) (h1 : ¬ w 1 = -1) {k c : Nat} (hk : k < cP w) (hc : rT w ≤ c) (hc2 : c < 1800) : wsp (upd w (41 + 8 * k) (nI c)) k (rT w) = if w (39 + 8 * k) = 1 then wap w (w (35 + 8 * k)) (own (upd w (41 + 8 * k) (nI c)) k) (rT w) c else wsh w k (rT w) c := by
  have hk4 := hv.p4 hk
  have hl : Lk w (upd w (41 + 8 * k) (nI c)) := Lk.upd (by omega) (by omega)
  have nn : ∀ j, j ≠ 41 + 8 * k → upd w (41 + 8 * k) (nI c) j = w j := fun j hj => upd_n hj
  have ef : fwS (upd w (41 + 8 * k) (nI c)) k (rT w) = c := by
    unfold fwS; rw [(cl_beg hv h1 hk4 hc hc2).2]
    split <;> omega
  rw [wsp_how, ef, nn (39 + 8 * k) (by omega), nn (35 + 8 * k) (by omega), wap_lk hl]
  have es : wsh (upd w (41 + 8 * k) (nI c)) k (rT w) c = wsh w k (rT w) c := by
    unfold wsh
    exact smA_congr _ (fun m _ _ => by rw [dsc_lk hl, od_lk hl, od_lk hl, nn 0 (by omega), nn (35 + 8 * k) (by omega), nn (40 + 8 * k) (by omega), shr_lk hv.c hl (nn _ (by omega)) (nn _ (by omega)) (nn _ (by omega))])
  rw [es]
theorem wap_bd {w : Nat → Int32} (hv : Vld w) {b : Int32} {x : Int64} {t s : Nat} (hb : 0 ≤ b.toInt) (hbt : b.toInt ≤ t) (hts : t ≤ s) (hs : s ≤ 1800) (hx : 0 ≤ x.toInt ∧ x.toInt ≤ 1000000000) : 0 ≤ (wap w b x t s).toInt ∧ (wap w b x t s).toInt ≤ (1800 - s : Nat) * 1000000000 := by
  unfold wap
  refine smA_bd (B := 1000000000) (by decide) _ (by omega) (fun m h1 h2 => ?_)
  have hd := dsc_bd hv (m - t)
  have ho := od_bd hv hb hbt (show t ≤ m by omega) (show m < 1800 by omega)
  obtain ⟨p1, p2, p3, _⟩ := prt_bd (by decide : (1000000000 : Int) ≤ 9000000000) hx ho
  obtain ⟨q1, q2, q3, _⟩ := prt_bd (x := dsc w (m - t)) (y := x * od w b (nI t) m / 1000000000) (by decide : (1000000000 : Int) ≤ 9000000000) hd (by rw [p1]; omega)
  rw [q1]; omega
/-- what is shared in a month, by its parts -/
theorem shx_bd {s v a b : Int64} (hs : 0 ≤ s.toInt ∧ s.toInt ≤ 600000000) (hv : 0 ≤ v.toInt ∧ v.toInt ≤ s.toInt) (ha : 0 ≤ a.toInt ∧ a.toInt ≤ 1000000000) (hb : 0 ≤ b.toInt ∧ b.toInt ≤ 1000000000) : ((s * (a * b / 1000000000) + v * (b - a * b / 1000000000)) / 1000000000).toInt = (s.toInt * (a.toInt * b.toInt / 1000000000) + v.toInt * (b.toInt - a.toInt * b.toInt / 1000000000)) / 1000000000 ∧ 0 ≤ (s.toInt * (a.toInt * b.toInt / 1000000000) + v.toInt * (b.toInt - a.toInt * b.toInt / 1000000000)) / 1000000000 ∧ (s.toInt * (a.toInt * b.toInt / 1000000000) + v.toInt * (b.toInt - a.toInt * b.toInt / 1000000000)) / 1000000000 ≤ 600000000 ∧ a.toInt * b.toInt / 1000000000 ≤ b.toInt ∧ 0 ≤ a.toInt * b.toInt / 1000000000 := by
  obtain ⟨p1, p2, p3, p4⟩ := prt_bd (by decide : (1000000000 : Int) ≤ 9000000000) ha hb
  have pb : a.toInt * b.toInt / 1000000000 ≤ b.toInt := by
    have : a.toInt * b.toInt ≤ 1000000000 * b.toInt := Int.mul_le_mul_of_nonneg_right ha.2 hb.1
    omega
  generalize hc : a * b / 1000000000 = c at *
  rw [← p1] at p2 p3 pb ⊢
  have m0 : 0 ≤ s.toInt * c.toInt := Int.mul_nonneg hs.1 p2
  have d0 : (b - c).toInt = b.toInt - c.toInt := i64_sub (by omega) (by omega)
  have n0 : 0 ≤ v.toInt * (b.toInt - c.toInt) := Int.mul_nonneg hv.1 (by omega)
  have n1 : v.toInt * (b.toInt - c.toInt) ≤ s.toInt * (b.toInt - c.toInt) := Int.mul_le_mul_of_nonneg_right hv.2 (by omega)
  have n2 : s.toInt * c.toInt + s.toInt * (b.toInt - c.toInt) = s.toInt * b.toInt := by rw [← Int.mul_add]; congr 1; omega
  have n3 : s.toInt * b.toInt ≤ 600000000 * 1000000000 := mul_le' hs.2 hb.2 hb.1 (by decide)
  have e1 : (s * c).toInt = s.toInt * c.toInt := i64_mul (by omega) (by omega)
  have e2 : (v * (b - c)).toInt = v.toInt * (b.toInt - c.toInt) := by rw [i64_mul (by rw [d0]; omega) (by rw [d0]; omega), d0]
  have e3 : (s * c + v * (b - c)).toInt = s.toInt * c.toInt + v.toInt * (b.toInt - c.toInt) := by rw [i64_add (by omega) (by omega), e1, e2]
  have e4 : ((s * c + v * (b - c)) / 1000000000).toInt = (s.toInt * c.toInt + v.toInt * (b.toInt - c.toInt)) / 1000000000 := by rw [i64_div (by omega) (by rw [b64]; decide), e3, b64]
  refine ⟨e4, by omega, by omega, pb, p2⟩
theorem svv_bd {s : Int64} {v : Int32} (hs : 0 ≤ s.toInt ∧ s.toInt ≤ 600000000) (hv : 0 ≤ v.toInt ∧ v.toInt ≤ 1000) : (s * v.toInt64 / 1000).toInt = s.toInt * v.toInt / 1000 ∧ 0 ≤ s.toInt * v.toInt / 1000 ∧ s.toInt * v.toInt / 1000 ≤ s.toInt := by
  have x : (1000 : Int64).toInt = 1000 := rfl
  have m0 : 0 ≤ s.toInt * v.toInt := Int.mul_nonneg hs.1 hv.1
  have m1 : s.toInt * v.toInt ≤ s.toInt * 1000 := Int.mul_le_mul_of_nonneg_left hv.2 hs.1
  have e1 : (s * v.toInt64).toInt = s.toInt * v.toInt := by rw [i64_mul (by rw [i64_of]; omega) (by rw [i64_of]; omega), i64_of]
  refine ⟨by rw [i64_div (by omega) (by rw [x]; decide), e1, x], by omega, by omega⟩
/-- a month's worth of a share -/
def shT (w : Nat → Int32) (k t m : Nat) : Int64 := dsc w (m - t) * ((shr w k m * (od w (w 0) (nI t) m * od w (w (35 + 8 * k)) (nI t) m / 1000000000) + shr w k m * (w (40 + 8 * k)).toInt64 / 1000 * (od w (w (35 + 8 * k)) (nI t) m - od w (w 0) (nI t) m * od w (w (35 + 8 * k)) (nI t) m / 1000000000)) / 1000000000) / 1000000000
theorem shT_bd {w : Nat → Int32} (hv : Vld w) {k t m : Nat} (hk : k < cP w) (hb : (w 0).toInt ≤ t) (hb2 : (w (35 + 8 * k)).toInt ≤ t) (htm : t ≤ m) (hm : m < 1800) : 0 ≤ (shT w k t m).toInt ∧ (shT w k t m).toInt ≤ 1000000000 := by
  have hd := dsc_bd hv (m - t)
  have ha := od_bd hv hv.2.1.1 hb htm hm
  have hbb := od_bd hv (hv.sp hk).1.1 hb2 htm hm
  have hw := whl_bd hv hm
  obtain ⟨-, s0, s1⟩ := shr_toInt hv hk hm
  obtain ⟨v1, v2, v3⟩ := svv_bd (s := shr w k m) ⟨s0, by omega⟩ (hv.sp hk).2.2.2.2.2.1
  obtain ⟨x1, x2, x3, _⟩ := shx_bd (s := shr w k m) (v := shr w k m * (w (40 + 8 * k)).toInt64 / 1000) ⟨s0, by omega⟩ (by rw [v1]; omega) ha hbb
  unfold shT
  obtain ⟨q1, q2, q3, _⟩ := prt_bd (x := dsc w (m - t)) (by decide : (1000000000 : Int) ≤ 9000000000) hd (by rw [x1]; exact ⟨x2, by omega⟩)
  rw [q1]; omega
theorem wsh_fall {w : Nat → Int32} (hv : Vld w) {k t : Nat} (hk : k < cP w) (hb : (w 0).toInt ≤ t) (hb2 : (w (35 + 8 * k)).toInt ≤ t) {s : Nat} (hts : t ≤ s) : ∀ d, s + d ≤ 1800 → (wsh w k t (s + d)).toInt ≤ (wsh w k t s).toInt
  | 0, _ => Int.le_refl _
  | d + 1, h => by
    have ih := wsh_fall hv hk hb hb2 hts d (by omega)
    have e : wsh w k t (s + d) = shT w k t (s + d) + wsh w k t (s + d + 1) := by
      unfold wsh
      rw [show 1800 - (s + d) = (1800 - (s + d + 1)) + 1 by omega, smA_front]; rfl
    have b1 := shT_bd hv hk hb hb2 (show t ≤ s + d by omega) (show s + d < 1800 by omega)
    have b2 : 0 ≤ (wsh w k t (s + d + 1)).toInt ∧ (wsh w k t (s + d + 1)).toInt ≤ (1800 - (s + d + 1) : Nat) * 1000000000 :=
      smA_bd (F := shT w k t) (B := 1000000000) (by decide) _ (by omega) (fun m h1 h2 => shT_bd hv hk hb hb2 (by omega) (by omega))
    rw [e, i64_add (by omega) (by omega)] at ih
    rw [show s + (d + 1) = s + d + 1 by omega]; omega
