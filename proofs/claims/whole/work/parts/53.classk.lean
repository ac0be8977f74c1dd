/-! ===== the class's reckoner: the half, by halving ===== -/
theorem smA_le {F G : Nat → Int64} {s : Nat} {B : Int} (hB : 0 ≤ B) : ∀ n : Nat, (n : Int) * B ≤ 9000000000000000000 → (∀ m, s ≤ m → m < s + n → 0 ≤ (F m).toInt ∧ (F m).toInt ≤ (G m).toInt ∧ (G m).toInt ≤ B) → (smA F s n).toInt ≤ (smA G s n).toInt
  | 0, _, _ => Int.le_refl _
  | n + 1, hn, h => by
    have e : ((n + 1 : Nat) : Int) * B = n * B + B := by rw [Int.natCast_succ, Int.add_mul, Int.one_mul]
    rw [e] at hn
    have ih := smA_le hB n (by omega) (fun m h1 h2 => h m h1 (by omega))
    have bF := smA_bd (F := F) (s := s) hB n (by omega) (fun m h1 h2 => by have := h m h1 (by omega); omega)
    have bG := smA_bd (F := G) (s := s) hB n (by omega) (fun m h1 h2 => by have := h m h1 (by omega); omega)
    have c := h (s + n) (by omega) (by omega)
    rw [smA_s, smA_s, i64_add (by omega) (by omega), i64_add (by omega) (by omega)]; omega
/-- the row with another portion -/
def pW (w : Nat → Int32) (k p : Nat) : Nat → Int32 := upd w (38 + 8 * k) (nI p)
section PM
variable {w : Nat → Int32} {k : Nat}
theorem pW_lk (hk : k < 4) (p : Nat) : Lk w (pW w k p) := Lk.upd (by omega) (by omega)
theorem pW_n {p j : Nat} (h : j ≠ 38 + 8 * k) : pW w k p j = w j := upd_n h
theorem pW_s {p : Nat} : pW w k p (38 + 8 * k) = nI p := upd_s
theorem pW_v (hv : Vld w) (hk : k < cP w) (hpt : ¬ w (37 + 8 * k) = -1) {p : Nat} (hp : p ≤ 1000) : Vld (pW w k p) := Vld_portion hv hk hpt (by rw [nI_toInt (by omega)]; omega) (by rw [nI_toInt (by omega)]; omega)
theorem pW_k (hv : Vld w) (hk : k < cP w) {p : Nat} : k < cP (pW w k p) := by
  have hk4 := hv.p4 hk
  unfold cP; rw [pW_n (by omega)]; exact hk
theorem pm_shr (hv : Vld w) (hk : k < cP w) (hpt : ¬ w (37 + 8 * k) = -1) {p p' m : Nat} (h : p ≤ p') (h' : p' ≤ 1000) (hm : m < 1800) : (shr (pW w k p) k m).toInt ≤ (shr (pW w k p') k m).toInt := by
  have hk4 := hv.p4 hk
  have hl := pW_lk (w := w) hk4 p
  have hl' := pW_lk (w := w) hk4 p'
  have e1 := (shr_toInt (pW_v hv hk hpt (show p ≤ 1000 by omega)) (pW_k hv hk) hm).1
  have e2 := (shr_toInt (pW_v hv hk hpt h') (pW_k hv hk) hm).1
  have hw := whl_bd hv hm
  have hn := nS_toInt hv
  have hd := wed_toInt hv hk
  rw [e1, e2, nS_lk hv.c hl, nS_lk hv.c hl', whl_lk hv.c hl, whl_lk hv.c hl', wed_lk hv.c hl (pW_n (by omega)) (pW_n (by omega)), wed_lk hv.c hl' (pW_n (by omega)) (pW_n (by omega)), pW_s, pW_s, nI_toInt (by omega), nI_toInt (by omega)]
  by_cases c : nS w = 0
  · rw [if_pos c, if_pos c]; exact Int.le_refl _
  · rw [if_neg c, if_neg c]
    have hp := nz_pos hn.1 c
    refine Int.ediv_le_ediv (by omega) ?_
    refine Int.mul_le_mul_of_nonneg_right ?_ hd.1
    exact Int.mul_le_mul_of_nonneg_left (by omega) hw.1
theorem shT_pm (hv : Vld w) (hk : k < cP w) (hpt : ¬ w (37 + 8 * k) = -1) {p p' t m : Nat} (h : p ≤ p') (h' : p' ≤ 1000) (hb : (w 0).toInt ≤ t) (hb2 : (w (35 + 8 * k)).toInt ≤ t) (htm : t ≤ m) (hm : m < 1800) : (shT (pW w k p) k t m).toInt ≤ (shT (pW w k p') k t m).toInt := by
  have hk4 := hv.p4 hk
  have hs := pm_shr hv hk hpt h h' hm
  have hl := pW_lk (w := w) hk4 p
  have hl' := pW_lk (w := w) hk4 p'
  have hd := dsc_bd hv (m - t)
  have ha := od_bd hv hv.2.1.1 hb htm hm
  have hbb := od_bd hv (hv.sp hk).1.1 hb2 htm hm
  have hw := whl_bd hv hm
  obtain ⟨-, s0, s1⟩ := shr_toInt (pW_v hv hk hpt (show p ≤ 1000 by omega)) (pW_k hv hk) hm
  obtain ⟨-, s0', s1'⟩ := shr_toInt (pW_v hv hk hpt h') (pW_k hv hk) hm
  rw [whl_lk hv.c hl] at s1
  rw [whl_lk hv.c hl'] at s1'
  have h5 := (hv.sp hk).2.2.2.2.2.1
  unfold shT
  rw [dsc_lk hl, dsc_lk hl', od_lk hl, od_lk hl, od_lk hl', od_lk hl', pW_n (show 0 ≠ 38 + 8 * k by omega), pW_n (show 0 ≠ 38 + 8 * k by omega), pW_n (show 35 + 8 * k ≠ 38 + 8 * k by omega), pW_n (show 35 + 8 * k ≠ 38 + 8 * k by omega), pW_n (show 40 + 8 * k ≠ 38 + 8 * k by omega), pW_n (show 40 + 8 * k ≠ 38 + 8 * k by omega)]
  generalize shr (pW w k p) k m = S at *
  generalize shr (pW w k p') k m = S' at *
  obtain ⟨v1, v2, v3⟩ := svv_bd (s := S) ⟨s0, by omega⟩ h5
  obtain ⟨v1', v2', v3'⟩ := svv_bd (s := S') ⟨s0', by omega⟩ h5
  obtain ⟨x1, x2, x3, x4, x5⟩ := shx_bd (s := S) (v := S * (w (40 + 8 * k)).toInt64 / 1000) ⟨s0, by omega⟩ (by rw [v1]; omega) ha hbb
  obtain ⟨x1', x2', x3', _, _⟩ := shx_bd (s := S') (v := S' * (w (40 + 8 * k)).toInt64 / 1000) ⟨s0', by omega⟩ (by rw [v1']; omega) ha hbb
  obtain ⟨q1, _, _, _⟩ := prt_bd (x := dsc w (m - t)) (by decide : (1000000000 : Int) ≤ 9000000000) hd (y := (S * (od w (w 0) (nI t) m * od w (w (35 + 8 * k)) (nI t) m / 1000000000) + S * (w (40 + 8 * k)).toInt64 / 1000 * (od w (w (35 + 8 * k)) (nI t) m - od w (w 0) (nI t) m * od w (w (35 + 8 * k)) (nI t) m / 1000000000)) / 1000000000) (by rw [x1]; exact ⟨x2, by omega⟩)
  obtain ⟨q1', _, _, _⟩ := prt_bd (x := dsc w (m - t)) (by decide : (1000000000 : Int) ≤ 9000000000) hd (y := (S' * (od w (w 0) (nI t) m * od w (w (35 + 8 * k)) (nI t) m / 1000000000) + S' * (w (40 + 8 * k)).toInt64 / 1000 * (od w (w (35 + 8 * k)) (nI t) m - od w (w 0) (nI t) m * od w (w (35 + 8 * k)) (nI t) m / 1000000000)) / 1000000000) (by rw [x1']; exact ⟨x2', by omega⟩)
  rw [q1, q1', x1, x1', v1, v1']
  refine Int.ediv_le_ediv (by decide) (Int.mul_le_mul_of_nonneg_left ?_ hd.1)
  refine Int.ediv_le_ediv (by decide) ?_
  have y1 := Int.mul_le_mul_of_nonneg_right hs x5
  have y2 : S.toInt * (w (40 + 8 * k)).toInt / 1000 ≤ S'.toInt * (w (40 + 8 * k)).toInt / 1000 := Int.ediv_le_ediv (by decide) (Int.mul_le_mul_of_nonneg_right hs h5.1)
  have y3 := Int.mul_le_mul_of_nonneg_right y2 (show 0 ≤ (od w (w (35 + 8 * k)) (nI t) m).toInt - (od w (w 0) (nI t) m).toInt * (od w (w (35 + 8 * k)) (nI t) m).toInt / 1000000000 by omega)
  omega
theorem own_pm (hv : Vld w) (hk : k < cP w) (hpt : ¬ w (37 + 8 * k) = -1) (h1 : ¬ w 1 = -1) (hb : (w 0).toInt ≤ rT w) (hb2 : (w (35 + 8 * k)).toInt ≤ rT w) {p p' : Nat} (h : p ≤ p') (h' : p' ≤ 1000) : (own (pW w k p) k).toInt ≤ (own (pW w k p') k).toInt := by
  have hk4 := hv.p4 hk
  obtain ⟨r1, r2, r3, r4⟩ := hv.r h1
  obtain ⟨b1, b2, b3⟩ := hv.b h1 hk
  have nb : ¬ w 1 < w 0 := by rw [i32_lt]; omega
  have nb2 : ¬ w 1 < w (35 + 8 * k) := by rw [i32_lt]; omega
  have key : ∀ p, p ≤ 1000 → own (pW w k p) k = ownB (shr (pW w k p) k (rT w)) (ann w (w 0) (rT w) (rT w)) (ann w (w (35 + 8 * k)) (rT w) (bT w k)) ∧ 0 ≤ (shr (pW w k p) k (rT w)).toInt ∧ (shr (pW w k p) k (rT w)).toInt * (ann w (w 0) (rT w) (rT w)).toInt ≤ 9000000000000000000 := by
    intro p hp
    have hl := pW_lk (w := w) hk4 p
    have eb : bT (pW w k p) k = bT w k := by unfold bT; rw [beg_lk hl (pW_n (by omega))]
    obtain ⟨s0, _, s2⟩ := shm_bd (pW_v hv hk hpt hp) (by rw [pW_n (by omega)]; exact h1) (pW_k hv hk)
    rw [rT_lk hl, ann_lk hl, pW_n (show 0 ≠ 38 + 8 * k by omega)] at s2
    rw [rT_lk hl] at s0
    refine ⟨?_, s0, s2⟩
    unfold own
    rw [rT_lk hl, ann_lk hl, ann_lk hl, eb, pW_n (show 1 ≠ 38 + 8 * k by omega), pW_n (show 0 ≠ 38 + 8 * k by omega), pW_n (show 37 + 8 * k ≠ 38 + 8 * k by omega), pW_n (show 35 + 8 * k ≠ 38 + 8 * k by omega), if_neg h1, if_neg hpt, if_neg nb, if_neg nb2]
  obtain ⟨e1, s1, g1⟩ := key p (by omega)
  obtain ⟨e2, s2, g2⟩ := key p' h'
  have hs := pm_shr hv hk hpt h h' r2
  have a0 := (ann_bd hv hv.2.1.1 hb (Nat.le_refl _) (show rT w ≤ 1800 by omega)).1
  have p0 := (ann_bd hv (hv.sp hk).1.1 hb2 b3 (show bT w k ≤ 1800 by omega)).1
  rw [e1, e2, ownB_toInt s1 a0 g1 p0, ownB_toInt s2 a0 g2 p0]
  by_cases c : (ann w (w (35 + 8 * k)) (rT w) (bT w k)).toInt = 0
  · rw [if_pos c, if_pos c]; exact Int.le_refl _
  · rw [if_neg c, if_neg c]
    have y1 := Int.mul_le_mul_of_nonneg_right hs a0
    have y2 := Int.ediv_le_ediv (show (0 : Int) < 1000000000 by decide) y1
    have y3 := Int.ediv_le_ediv (show 0 < (ann w (w (35 + 8 * k)) (rT w) (bT w k)).toInt by omega) (Int.mul_le_mul_of_nonneg_right y2 (show (0 : Int) ≤ 1000000000 by decide))
    split <;> split <;> omega
theorem wap_pm (hv : Vld w) {b : Int32} {x y : Int64} {t s : Nat} (hb : 0 ≤ b.toInt) (hbt : b.toInt ≤ t) (hts : t ≤ s) (hs : s ≤ 1800) (hx : 0 ≤ x.toInt) (hxy : x.toInt ≤ y.toInt) (hy : y.toInt ≤ 1000000000) : (wap w b x t s).toInt ≤ (wap w b y t s).toInt := by
  unfold wap
  refine smA_le (B := 1000000000) (by decide) _ (by omega) (fun m h1 h2 => ?_)
  have hd := dsc_bd hv (m - t)
  have ho := od_bd hv hb hbt (show t ≤ m by omega) (show m < 1800 by omega)
  obtain ⟨p1, p2, p3, _⟩ := prt_bd (x := x) (by decide : (1000000000 : Int) ≤ 9000000000) ⟨hx, by omega⟩ ho
  obtain ⟨p1', p2', p3', _⟩ := prt_bd (x := y) (by decide : (1000000000 : Int) ≤ 9000000000) ⟨by omega, hy⟩ ho
  obtain ⟨q1, q2, q3, _⟩ := prt_bd (x := dsc w (m - t)) (y := x * od w b (nI t) m / 1000000000) (by decide : (1000000000 : Int) ≤ 9000000000) hd (by rw [p1]; omega)
  obtain ⟨q1', q2', q3', _⟩ := prt_bd (x := dsc w (m - t)) (y := y * od w b (nI t) m / 1000000000) (by decide : (1000000000 : Int) ≤ 9000000000) hd (by rw [p1']; omega)
  have z1 := Int.ediv_le_ediv (show (0 : Int) < 1000000000 by decide) (Int.mul_le_mul_of_nonneg_right hxy ho.1)
  rw [q1, q1']
  refine ⟨q2, ?_, by omega⟩
  refine Int.ediv_le_ediv (by decide) (Int.mul_le_mul_of_nonneg_left ?_ hd.1)
  rw [p1, p1']; exact z1
theorem wsp_pm (hv : Vld w) (hk : k < cP w) (hpt : ¬ w (37 + 8 * k) = -1) (h1 : ¬ w 1 = -1) (hb : (w 0).toInt ≤ rT w) (hb2 : (w (35 + 8 * k)).toInt ≤ rT w) {p p' : Nat} (h : p ≤ p') (h' : p' ≤ 1000) : 0 ≤ (wsp (pW w k p) k (rT w)).toInt ∧ (wsp (pW w k p) k (rT w)).toInt ≤ (wsp (pW w k p') k (rT w)).toInt ∧ (wsp (pW w k p') k (rT w)).toInt ≤ 1800000000000 := by
  have hk4 := hv.p4 hk
  obtain ⟨r1, r2, r3, r4⟩ := hv.r h1
  obtain ⟨b1, b2, b3⟩ := hv.b h1 hk
  have ef : ∀ p, fwS (pW w k p) k (rT w) = fwS w k (rT w) := fun p => by
    have eb : bT (pW w k p) k = bT w k := by unfold bT; rw [beg_lk (pW_lk hk4 p) (pW_n (by omega))]
    unfold fwS; rw [eb]
  have hfs : rT w ≤ fwS w k (rT w) ∧ fwS w k (rT w) ≤ 1800 := by unfold fwS; split <;> omega
  have hv1 := pW_v hv hk hpt (show p ≤ 1000 by omega)
  have hv2 := pW_v hv hk hpt h'
  rw [wsp_how, wsp_how, ef, ef, pW_n (show 39 + 8 * k ≠ 38 + 8 * k by omega), pW_n (show 39 + 8 * k ≠ 38 + 8 * k by omega), pW_n (show 35 + 8 * k ≠ 38 + 8 * k by omega), pW_n (show 35 + 8 * k ≠ 38 + 8 * k by omega)]
  by_cases c : w (39 + 8 * k) = 1
  · rw [if_pos c, if_pos c, wap_lk (pW_lk hk4 p), wap_lk (pW_lk hk4 p')]
    have o1 := own_bd hv1 (pW_k hv hk)
    have o2 := own_bd hv2 (pW_k hv hk)
    have a1 := wap_bd hv (hv.sp hk).1.1 hb2 hfs.1 hfs.2 o1
    have a2 := wap_bd hv (hv.sp hk).1.1 hb2 hfs.1 hfs.2 o2
    have a3 := wap_pm hv (hv.sp hk).1.1 hb2 hfs.1 hfs.2 o1.1 (own_pm hv hk hpt h1 hb hb2 h h') o2.2
    exact ⟨a1.1, a3, by omega⟩
  · rw [if_neg c, if_neg c]
    have bd : ∀ p, p ≤ 1000 → ∀ m, fwS w k (rT w) ≤ m → m < fwS w k (rT w) + (1800 - fwS w k (rT w)) → 0 ≤ (shT (pW w k p) k (rT w) m).toInt ∧ (shT (pW w k p) k (rT w) m).toInt ≤ 1000000000 := fun p hp m m1 m2 =>
      shT_bd (pW_v hv hk hpt hp) (pW_k hv hk) (by rw [pW_n (by omega)]; exact hb) (by rw [pW_n (by omega)]; exact hb2) (by omega) (by omega)
    have a1 := smA_bd (F := shT (pW w k p) k (rT w)) (s := fwS w k (rT w)) (B := 1000000000) (by decide) (1800 - fwS w k (rT w)) (by omega) (bd p (by omega))
    have a2 := smA_bd (F := shT (pW w k p') k (rT w)) (s := fwS w k (rT w)) (B := 1000000000) (by decide) (1800 - fwS w k (rT w)) (by omega) (bd p' h')
    have a3 := smA_le (F := shT (pW w k p) k (rT w)) (G := shT (pW w k p') k (rT w)) (s := fwS w k (rT w)) (B := 1000000000) (by decide) (1800 - fwS w k (rT w)) (by omega) (fun m m1 m2 => ⟨(bd p (by omega) m m1 m2).1, shT_pm hv hk hpt h h' hb hb2 (by omega) (by omega), (bd p' h' m m1 m2).2⟩)
    have e1 : wsh (pW w k p) k (rT w) (fwS w k (rT w)) = smA (shT (pW w k p) k (rT w)) (fwS w k (rT w)) (1800 - fwS w k (rT w)) := rfl
    have e2 : wsh (pW w k p') k (rT w) (fwS w k (rT w)) = smA (shT (pW w k p') k (rT w)) (fwS w k (rT w)) (1800 - fwS w k (rT w)) := rfl
    rw [e1, e2]
    exact ⟨a1.1, a3, by omega⟩
end PM
