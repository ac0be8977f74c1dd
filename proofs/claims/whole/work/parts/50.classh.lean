/-! ===== the class's reckoner: a spouse tried with another how; crossing ===== -/
/-- rows that differ within the spouses alone -/
def Lk (w w' : Nat → Int32) : Prop := ∀ j, j < 35 ∨ 67 ≤ j → w' j = w j
theorem Lk.upd {w : Nat → Int32} {j : Nat} {x : Int32} (h : 35 ≤ j) (h2 : j < 67) : Lk w (upd w j x) := fun i hi => upd_n (by omega)
theorem LwR.lk {w w' pi tm : Nat → Int32} {sr : Nat → Nat} {so : Nat → Nat → Int32} (hc : Cnt w) (h : LwR w pi tm sr so) (hl : Lk w w') : LwR w' pi tm sr so := by
  obtain ⟨⟨a0, a1, a2, a3, a4, a5, a6⟩, b, c, d⟩ := h
  have e35 : ∀ j, j < 35 → w' j = w j := fun j hj => hl j (Or.inl hj)
  have eS : cS w' = cS w := by unfold cS; rw [hl 3 (by omega)]
  have h8 := hc.1.2
  refine ⟨⟨by rw [hl 0 (by omega)]; exact a0, by rw [hl 1 (by omega)]; exact a1, by rw [hl 2 (by omega)]; exact a2, by rw [hl 3 (by omega)]; exact a3, by rw [svc_cg hc e35]; exact a4, by rw [hl 4 (by omega)]; exact a5, by rw [hl 5 (by omega)]; exact a6⟩, fun i hi => by rw [hl (6 + i) (by omega)]; exact b i hi, c, fun k hk => ?_⟩
  rw [eS] at hk
  rw [hl (11 + 3 * k) (by omega), hl (12 + 3 * k) (by omega), hl (13 + 3 * k) (by omega)]
  exact d k hk
theorem YrR.lk {w w' ys ls : Nat → Int32} (h : YrR w ys ls) (hl : Lk w w') : YrR w' ys ls := by
  have eY : cY w' = cY w := by unfold cY; rw [hl 5 (by omega)]
  obtain ⟨a, b, c⟩ := h
  refine ⟨by rw [eY]; exact a, fun i hi => ?_, fun j hj => ?_⟩
  · rw [eY] at hi
    obtain ⟨j, j1, j2, j3⟩ := b i hi
    exact ⟨j, by rw [eY]; exact j1, by rw [hl (67 + 2 * j) (by omega)]; exact j2, by rw [hl (68 + 2 * j) (by omega)]; exact j3⟩
  · rw [eY] at hj
    obtain ⟨i, i1, i2, i3⟩ := c j hj
    exact ⟨i, by rw [eY]; exact i1, by rw [hl (67 + 2 * j) (by omega)]; exact i2, by rw [hl (68 + 2 * j) (by omega)]; exact i3⟩
theorem wed_lk {w w' : Nat → Int32} (hc : Cnt w) (hl : Lk w w') {k : Nat} (h6 : w' (36 + 8 * k) = w (36 + 8 * k)) (h7 : w' (37 + 8 * k) = w (37 + 8 * k)) : wed w' k = wed w k := by
  unfold wed
  rw [h6, h7, svc_cg hc (fun j hj => hl j (Or.inl hj))]
theorem whl_lk {w w' : Nat → Int32} (hc : Cnt w) (hl : Lk w w') (m : Nat) : whl w' m = whl w m := whl_cg hc (fun j hj => hl j (Or.inl hj)) m
theorem nS_lk {w w' : Nat → Int32} (hc : Cnt w) (hl : Lk w w') : nS w' = nS w := svc_cg hc (fun j hj => hl j (Or.inl hj))
theorem shr_lk {w w' : Nat → Int32} (hc : Cnt w) (hl : Lk w w') {k : Nat} (h6 : w' (36 + 8 * k) = w (36 + 8 * k)) (h7 : w' (37 + 8 * k) = w (37 + 8 * k)) (h8 : w' (38 + 8 * k) = w (38 + 8 * k)) (m : Nat) : shr w' k m = shr w k m := by
  unfold shr
  rw [nS_lk hc hl, whl_lk hc hl, h8, wed_lk hc hl h6 h7]
theorem beg_lk {w w' : Nat → Int32} (hl : Lk w w') {k : Nat} (h : w' (41 + 8 * k) = w (41 + 8 * k)) : beg w' k = beg w k := by
  unfold beg; rw [hl 1 (by omega), h]
theorem pdB_bd {w : Nat → Int32} (hv : Vld w) {k m : Nat} (hk : k < cP w) (hm : m < 1800) (how : Int32) : 0 ≤ (pdB w k m how).toInt ∧ (pdB w k m how).toInt ≤ 1000000000 := by
  have ho := own_bd hv hk
  have hw := whl_bd hv hm
  obtain ⟨-, s0, s1⟩ := shr_toInt hv hk hm
  have h5 := (hv.sp hk).2.2.2.2.2.1
  unfold pdB
  by_cases c1 : ispd w k (nI m) = 0
  · rw [if_pos c1]; decide
  rw [if_neg c1]
  by_cases c2 : how = 1
  · rw [if_pos c2]; exact ho
  rw [if_neg c2]
  by_cases c3 : lvin (w 2) (nI m) = 0
  · rw [if_pos c3]
    have x : (1000 : Int64).toInt = 1000 := rfl
    have m0 : 0 ≤ (shr w k m).toInt * (w (40 + 8 * k)).toInt := Int.mul_nonneg s0 h5.1
    have m1 : (shr w k m).toInt * (w (40 + 8 * k)).toInt ≤ (shr w k m).toInt * 1000 := Int.mul_le_mul_of_nonneg_left h5.2 s0
    have e1 : (shr w k m * (w (40 + 8 * k)).toInt64).toInt = (shr w k m).toInt * (w (40 + 8 * k)).toInt := by rw [i64_mul (by rw [i64_of]; omega) (by rw [i64_of]; omega), i64_of]
    rw [i64_div (by omega) (by rw [x]; decide), e1, x]; omega
  · rw [if_neg c3]; omega
section CH
variable {po ro : Nat} {w pi tm : Nat → Int32} {sr : Nat → Nat} {so qo tl : Nat → Nat → Int32} {f F : pz_H} {ra : Nat → Nat → Int32} {ow : Nat → Int64} {ch : Nat → Int32}
theorem c_copy {a : Nat} {q : Nat → Int32} (hs : ∀ ch, SpF (RB ro ra ow ch f) a q) : ∃ ch', fnX7_copyFrom (RB ro ra ow ch f) (ro + 6) a = some (RB ro ra ow ch' f) ∧ ∀ i, i < 9 → ch' i = q i := by
  unfold fnX7_copyFrom
  rw [q_is (RB_rkf (ro := ro)).sp, bs, q_g0 (hs _), bs, r_c0 RB_rkf, bs, RB_RB, q_g1 (hs _), bs, r_c1 RB_rkf, bs, RB_RB, q_g2 (hs _), bs, r_c2 RB_rkf, bs, RB_RB, q_g3 (hs _), bs, r_c3 RB_rkf, bs, RB_RB, q_g4 (hs _), bs, r_c4 RB_rkf, bs, RB_RB, q_g5 (hs _), bs, r_c5 RB_rkf, bs, RB_RB, q_g6 (hs _), bs, r_c6 RB_rkf, bs, RB_RB, q_g7 (hs _), bs, r_c7 RB_rkf, bs, RB_RB, q_g8 (hs _), bs, r_c8 RB_rkf, bs, RB_RB]
  refine ⟨_, rfl, fun i hi => ?_⟩
  rcases (show i = 0 ∨ i = 1 ∨ i = 2 ∨ i = 3 ∨ i = 4 ∨ i = 5 ∨ i = 6 ∨ i = 7 ∨ i = 8 by omega) with z | z | z | z | z | z | z | z | z <;> subst z <;> rfl
theorem c_cross_loop (hP : PlF F po pi tm sr so qo tl) (hK : RkF F ro ra ow ch) (hr : LwR w pi tm sr so) (hv : Vld w) (hW : RwW w ra) {a k : Nat} {q : Nat → Int32} (hs : SpF F a q) (hq : QR w k q) (hk : k < cP w) (hc : ∀ m, m < 1800 → fnX5_paidToSpouse F ro po (ro + 6) (nI m) (own w k) = some (pdB w k m (1 - w (39 + 8 * k)))) : ∀ (N i : Nat) (by' ot : Int64), i ≤ 1800 → 1800 - i < N → 0 ≤ by'.toInt → by'.toInt ≤ i * 1000000000 → 0 ≤ ot.toInt → ot.toInt ≤ i * 1000000000 → fX5_firstCrossing_46 N F ro po a (own w k) (ot - by') (nI i) = some (crL w k (1800 - i) i by' ot, F) := by
  intro N
  induction N with
  | zero => intro i by' ot _ hh; omega
  | succ N ih =>
    intro i by' ot hi hN b0 b1 o0 o1
    show fX5_firstCrossing_46b _ _ _ _ _ _ _ _ = _
    unfold fX5_firstCrossing_46b
    by_cases e : i = 1800
    · subst e
      rw [if_pos (by decide)]; rfl
    · have hlt : i < 1800 := by omega
      rw [if_neg (nI_1800 hlt), r_r5 hK, bs, hc i hlt, bs, c_paidSp hP hK hr hv hW hs hq hlt, bs]
      have e3 : (if ispd w k (nI i) = 0 then (0 : Int64) else if w (39 + 8 * k) = 1 then own w k else if lvin (w 2) (nI i) = 0 then shr w k i * (w (40 + 8 * k)).toInt64 / 1000 else shr w k i) = pdB w k i (w (39 + 8 * k)) := rfl
      rw [e3, show 1800 - i = (1800 - (i + 1)) + 1 by omega]
      unfold crL
      have p1 := pdB_bd hv hk hlt (w (39 + 8 * k))
      have p2 := pdB_bd hv hk hlt (1 - w (39 + 8 * k))
      generalize pdB w k i (w (39 + 8 * k)) = x at *
      generalize pdB w k i (1 - w (39 + 8 * k)) = y at *
      have s1 : (ot + y).toInt = ot.toInt + y.toInt := i64_add (by omega) (by omega)
      have s2 : (by' + x).toInt = by'.toInt + x.toInt := i64_add (by omega) (by omega)
      have s3 : ot - by' + (y - x) = (ot + y) - (by' + x) := by
        have d1 : (ot - by').toInt = ot.toInt - by'.toInt := i64_sub (by omega) (by omega)
        have d2 : (y - x).toInt = y.toInt - x.toInt := i64_sub (by omega) (by omega)
        have d3 : ((ot + y) - (by' + x)).toInt = (ot + y).toInt - (by' + x).toInt := i64_sub (by omega) (by omega)
        have d4 : (ot - by' + (y - x)).toInt = (ot - by').toInt + (y - x).toInt := i64_add (by omega) (by omega)
        rw [i64_eq]; omega
      have s4 : ((ot + y) - (by' + x)).toInt = (ot + y).toInt - (by' + x).toInt := i64_sub (by omega) (by omega)
      have z6 : (0 : Int64).toInt = 0 := rfl
      rw [s3]
      by_cases c : ot + y ≤ by' + x
      · rw [if_pos c, if_pos (lg_le.mpr (by rw [i64_le] at c ⊢; omega)), nI_1]
        exact ih (i + 1) _ _ (by omega) (by omega) (by omega) (by omega) (by omega) (by omega)
      · rw [if_neg c, if_neg (fun z => c (by have := lg_le.mp z; rw [i64_le] at this ⊢; omega))]
theorem c_cross (h : PlF f po pi tm sr so qo tl) (hd : po + 19 ≤ ro ∨ ro + 7 ≤ po) (hr : LwR w pi tm sr so) (hy : YrR w (tl 0) (tl 1)) (hv : Vld w) {a k : Nat} {q : Nat → Int32} (hs : ∀ ra ow ch, SpF (RB ro ra ow ch f) a q) (hq : QR w k q) (hk : k < cP w) (hpt : ¬ w (37 + 8 * k) = -1) : ∃ ra' ch', fnX5_firstCrossing (RB ro ra ow ch f) ro po a = some (crL w k 1800 0 0 0, RB ro ra' ow ch' f) := by
  have hk4 := hv.p4 hk
  unfold fnX5_firstCrossing fX5_firstCrossing_37
  obtain ⟨ra1, e1, -, -⟩ := c_ownOf (ra := ra) (ow := ow) (ch := ch) h hd hr hy hv (fun ra ow => hs ra ow ch) hq hk
  obtain ⟨r0, e2, f2⟩ := c_fillW (ra := ra1) (ow := ow) (ch := ch) h hd hr hv
  obtain ⟨ch1, e3, f3⟩ := c_copy (ro := ro) (ra := va_up ra1 0 r0) (ow := ow) (ch := ch) (f := f) (fun ch => hs (va_up ra1 0 r0) ow ch)
  rw [r_is RB_rkf, bs, e1, bs]
  dsimp only
  rw [e2, bs, r_r5 RB_rkf, bs, e3, bs, r_r5 RB_rkf, bs, q_g4 (hs _ _ _), bs, hq.2.2.2.2.1]
  have go : ∀ x : Int32, x = 1 - w (39 + 8 * k) → (x = 0 ∨ x = 1) → ∃ ra' ch', ((pz_sV (RB ro (va_up ra1 0 r0) ow ch1 f) (ro + 6) 6 4 (.int x)).bind fun f1 => fX5_firstCrossing_46 pz_F f1 ro po a (own w k) 0 0) = some (crL w k 1800 0 0 0, RB ro ra' ow ch' f) := by
    intro x hx hx1
    rw [r_c4 RB_rkf, bs, RB_RB]
    have hW : RwW w (va_up ra1 0 r0) := fun j hj => by rw [up_s]; exact f2 j hj
    have hl : Lk w (upd w (39 + 8 * k) x) := Lk.upd (by omega) (by omega)
    have hv' : Vld (upd w (39 + 8 * k) x) := by
      have := Vld_set hv (p := nI 2) (k := nI k) (v := x) (t := 37 + 8 * k + 2) (Or.inr (Or.inr (Or.inr ⟨k, hk, rfl, 2, rfl, rfl, Or.inr (Or.inl ⟨rfl, hpt, hx1⟩)⟩)))
      rw [show 37 + 8 * k + 2 = 39 + 8 * k by omega] at this; exact this
    have nn : ∀ j, j ≠ 39 + 8 * k → upd w (39 + 8 * k) x j = w j := fun j hj => upd_n hj
    have hq' : QR (upd w (39 + 8 * k) x) k (va_up ch1 4 x) := by
      obtain ⟨q0, q1, q2, q3, q4, q5, q6, q7, q8⟩ := hq
      refine ⟨?_, ?_, ?_, ?_, ?_, ?_, ?_, ?_, ?_⟩
      · rw [up_n (by decide), f3 0 (by decide), nn _ (by omega)]; exact q0
      · rw [up_n (by decide), f3 1 (by decide), nn _ (by omega)]; exact q1
      · rw [up_n (by decide), f3 2 (by decide), nn _ (by omega)]; exact q2
      · rw [up_n (by decide), f3 3 (by decide), nn _ (by omega)]; exact q3
      · rw [up_s, upd_s]
      · rw [up_n (by decide), f3 5 (by decide), nn _ (by omega)]; exact q5
      · rw [up_n (by decide), f3 6 (by decide), nn _ (by omega)]; exact q6
      · rw [up_n (by decide), f3 7 (by decide), nn _ (by omega)]; exact q7
      · rw [up_n (by decide), f3 8 (by decide), wed_lk hv.c hl (nn _ (by omega)) (nn _ (by omega))]; exact q8
    have key := c_cross_loop (F := RB ro (va_up ra1 0 r0) ow (va_up ch1 4 x) f) (h.rb hd) RB_rkf hr hv hW (hs _ _ _) hq hk (fun m hm => by
      rw [c_paidSp (w := upd w (39 + 8 * k) x) (h.rb hd) RB_rkf (hr.lk hv.c hl) hv' (fun j hj => by rw [whl_lk hv.c hl]; exact hW j hj) (RB_rkf (ro := ro)).sp hq' hm]
      have i1 : ispd (upd w (39 + 8 * k) x) k (nI m) = ispd w k (nI m) := by
        unfold ispd
        rw [nn (37 + 8 * k) (by omega), nn 1 (by omega), nn (42 + 8 * k) (by omega), beg_lk hl (nn _ (by omega))]
      rw [i1, upd_s, nn 2 (by omega), nn (40 + 8 * k) (by omega), shr_lk hv.c hl (nn _ (by omega)) (nn _ (by omega)) (nn _ (by omega)), hx]
      rfl) pz_F 0 0 0 (by omega) (by unfold pz_F; omega) (by decide) (by decide) (by decide) (by decide)
    exact ⟨_, _, key⟩
  have hh := (hv.sp hk).2.2.2.2.1
  by_cases c : w (39 + 8 * k) = 1
  · rw [if_pos c]; exact go 0 (by rw [c]; rfl) (Or.inl rfl)
  · rw [if_neg c]
    exact go 1 (by rw [hh.resolve_right c]; rfl) (Or.inr rfl)
end CH
