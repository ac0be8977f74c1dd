/-! ===== the class's reckoner: its rows, annuities, own ===== -/
def pvW (w : Nat → Int32) : Nat → Int64
  | 0 => 0
  | i + 1 => whl w i
theorem vW_c {w : Nat → Int32} (hv : Vld w) (h1 : ¬ w 1 = -1) : ∀ m, m ≤ rT w + 1 → vW w m = (first w).toInt64
  | 0, _ => rfl
  | m + 1, h => by
    obtain ⟨r1, r2, r3, r4⟩ := hv.r h1
    have ih := vW_c hv h1 m (by omega)
    show stW w m (vW w m) = _
    unfold stW
    rw [if_neg h1]
    by_cases c1 : nI m < w 1
    · rw [if_pos c1]; exact ih
    rw [if_neg c1, if_pos (by rw [r1, nI_leI (by omega) (by omega)]; omega)]; exact ih
theorem whl_at {w : Nat → Int32} (hv : Vld w) (h1 : ¬ w 1 = -1) {m : Nat} (hm : m < 1800) (h : rT w ≤ m) : whl w m = vW w (m + 1) := by
  obtain ⟨r1, r2, r3, r4⟩ := hv.r h1
  unfold whl
  rw [if_neg h1, if_neg (by rw [r1, nI_ltI (by omega) (by omega)]; omega)]
theorem whl_b4 {w : Nat → Int32} (hv : Vld w) (h1 : ¬ w 1 = -1) {m : Nat} (hm : m < 1800) (h : m < rT w) : whl w m = 0 := by
  obtain ⟨r1, r2, r3, r4⟩ := hv.r h1
  unfold whl
  rw [if_neg h1, if_pos (by rw [r1, nI_ltI (by omega) (by omega)]; exact h)]
theorem whl_r {w : Nat → Int32} (hv : Vld w) (h1 : ¬ w 1 = -1) : whl w (rT w) = (first w).toInt64 := by
  obtain ⟨r1, r2, r3, r4⟩ := hv.r h1
  rw [whl_at hv h1 r2 (Nat.le_refl _), vW_c hv h1 _ (Nat.le_refl _)]
theorem whl_none {w : Nat → Int32} (h1 : w 1 = -1) (m : Nat) : whl w m = 0 := by unfold whl; rw [if_pos h1]
section CC
variable {po ro : Nat} {w pi tm : Nat → Int32} {sr : Nat → Nat} {so qo tl : Nat → Nat → Int32} {f : pz_H} {ra : Nat → Nat → Int32} {ow : Nat → Int64} {ch : Nat → Int32}
theorem c_fillW_loop (h : PlF f po pi tm sr so qo tl) (hd : po + 19 ≤ ro ∨ ro + 7 ≤ po) (hr : LwR w pi tm sr so) (hv : Vld w) : ∀ (N i : Nat) (ra : Nat → Nat → Int32), i ≤ 1800 → 1800 - i < N → (∀ j, j < i → ra 0 j = (whl w j).toInt32) → ∃ r0, fX5_fillWholes_5 N (RB ro ra ow ch f) ro po (pvW w i) (nI i) = some (RB ro (va_up ra 0 r0) ow ch f) ∧ ∀ j, j < 1800 → r0 j = (whl w j).toInt32 := by
  intro N
  induction N with
  | zero => intro i ra _ hh; omega
  | succ N ih =>
    intro i ra hi hN hl
    have h' := h.rb (ra := ra) (ow := ow) (ch := ch) hd
    show ∃ r0, fX5_fillWholes_5b _ _ _ _ _ _ = _ ∧ _
    unfold fX5_fillWholes_5b
    by_cases e : i = 1800
    · subst e
      rw [if_pos (by decide)]
      exact ⟨ra 0, by rw [up_id], hl⟩
    · rw [if_neg (nI_1800 (by omega))]
      have go : ∀ v, v = whl w i → ∃ r0, fX5_fillWholes_79 (fX5_fillWholes_5 N) (RB ro ra ow ch f) ro po v (nI i) = some (RB ro (va_up ra 0 r0) ow ch f) ∧ ∀ j, j < 1800 → r0 j = (whl w j).toInt32 := by
        intro v hv2
        subst hv2
        unfold fX5_fillWholes_79
        rw [r_r0 RB_rkf, bs, r_w0 RB_rkf (k := i) rfl (by omega), bs, RB_RB, nI_1]
        obtain ⟨r0, e1, e2⟩ := ih (i + 1) (va_up ra 0 (upd (ra 0) i (whl w i).toInt32)) (by omega) (by omega) (fun j hj => by
          rw [up_s]
          by_cases q : j = i
          · subst q; rw [upd_s]
          · rw [upd_n q]; exact hl j (by omega))
        rw [up_up] at e1
        exact ⟨r0, e1, e2⟩
      simp only [p_g1 h', p_r3 h', p_tm h' (i := (3 : Int32)) (k := 3) rfl (by decide), c_firstPay h' hr hv, bs]
      rw [hr.1.2.1, hr.2.1 3 (by decide)]
      by_cases c0 : w 1 = -1
      · rw [if_neg (by rw [c0]; exact ne_m1 (by rw [nI_toInt (by omega)]; omega)), if_pos c0]
        refine go _ ?_
        rw [whl_none c0]
        cases i with
        | zero => rfl
        | succ i => exact whl_none c0 i
      · obtain ⟨r1, r2, r3, r4⟩ := hv.r c0
        rw [if_neg c0, r1]
        by_cases c1 : nI i = nI (rT w)
        · rw [if_pos c1]
          have : i = rT w := by rw [i32_eq, nI_toInt (by omega), nI_toInt (by omega)] at c1; omega
          refine go _ ?_
          rw [this]; exact (whl_r hv c0).symm
        rw [if_neg c1]
        have c1' : i ≠ rT w := fun z => c1 (by rw [z])
        by_cases c2 : nI i ≤ nI (rT w)
        · rw [if_pos c2]
          rw [nI_leI (by omega) (by omega)] at c2
          refine go _ ?_
          rw [whl_b4 hv c0 (by omega) (by omega)]
          cases i with
          | zero => rfl
          | succ i => exact whl_b4 hv c0 (by omega) (by omega)
        rw [if_neg c2]
        have c2' := c2
        rw [nI_leI (by omega) (by omega)] at c2'
        have ep : pvW w i = vW w i := by
          obtain ⟨i, rfl⟩ : ∃ m, i = m + 1 := ⟨i - 1, by omega⟩
          exact whl_at hv c0 (by omega) (by omega)
        have ew : whl w i = stW w i (vW w i) := whl_at hv c0 (by omega) (by omega)
        rw [ep]
        unfold stW at ew
        rw [if_neg c0, r1, if_neg (by rw [nI_ltI (by omega) (by omega)]; omega), if_neg c2] at ew
        by_cases c3 : (nI i - nI (rT w)) - (nI i - nI (rT w)) / 12 * 12 = 0
        · rw [if_pos c3]; rw [if_pos c3] at ew; exact go _ ew.symm
        · rw [if_neg c3]; rw [if_neg c3] at ew; exact go _ ew.symm
theorem c_fillW (h : PlF f po pi tm sr so qo tl) (hd : po + 19 ≤ ro ∨ ro + 7 ≤ po) (hr : LwR w pi tm sr so) (hv : Vld w) : ∃ r0, fnX5_fillWholes (RB ro ra ow ch f) ro po = some (RB ro (va_up ra 0 r0) ow ch f) ∧ ∀ j, j < 1800 → r0 j = (whl w j).toInt32 := by
  unfold fnX5_fillWholes
  rw [r_is RB_rkf, bs]
  exact c_fillW_loop h hd hr hv pz_F 0 ra (by omega) (by unfold pz_F; omega) (fun j hj => by omega)
theorem c_fillD_loop (h : PlF f po pi tm sr so qo tl) (hd : po + 19 ≤ ro ∨ ro + 7 ≤ po) (hr : LwR w pi tm sr so) (hv : Vld w) : ∀ (N i : Nat) (ra : Nat → Nat → Int32), i ≤ 1800 → 1800 - i < N → (∀ j, j < i → ra 1 j = (dsc w j).toInt32) → ∃ r0, fX5_fillDiscounts_7 N (RB ro ra ow ch f) ro po (dsc w i) (nI i) = some (RB ro (va_up ra 1 r0) ow ch f) ∧ ∀ j, j < 1800 → r0 j = (dsc w j).toInt32 := by
  intro N
  induction N with
  | zero => intro i ra _ hh; omega
  | succ N ih =>
    intro i ra hi hN hl
    show ∃ r0, fX5_fillDiscounts_7b _ _ _ _ _ _ = _ ∧ _
    unfold fX5_fillDiscounts_7b
    by_cases e : i = 1800
    · subst e
      rw [if_pos (by decide)]
      exact ⟨ra 1, by rw [up_id], hl⟩
    · rw [if_neg (nI_1800 (by omega)), r_r1 RB_rkf, bs, r_w1 RB_rkf (k := i) rfl (by omega), bs, RB_RB]
      have h' := h.rb (ra := va_up ra 1 (upd (ra 1) i (dsc w i).toInt32)) (ow := ow) (ch := ch) hd
      rw [p_r3 h', bs, p_tm h' (i := (4 : Int32)) (k := 4) rfl (by decide), bs, hr.2.1 4 (by decide)]
      show ∃ r0, (if (12000 : Int64) + (w 10).toInt64 = 0 then _ else _) = _ ∧ _
      rw [if_neg hv.r10, nI_1]
      obtain ⟨r0, e1, e2⟩ := ih (i + 1) (va_up ra 1 (upd (ra 1) i (dsc w i).toInt32)) (by omega) (by omega) (fun j hj => by
          rw [up_s]
          by_cases q : j = i
          · subst q; rw [upd_s]
          · rw [upd_n q]; exact hl j (by omega))
      rw [up_up] at e1
      exact ⟨r0, e1, e2⟩
theorem c_fillD (h : PlF f po pi tm sr so qo tl) (hd : po + 19 ≤ ro ∨ ro + 7 ≤ po) (hr : LwR w pi tm sr so) (hv : Vld w) : ∃ r0, fnX5_fillDiscounts (RB ro ra ow ch f) ro po = some (RB ro (va_up ra 1 r0) ow ch f) ∧ ∀ j, j < 1800 → r0 j = (dsc w j).toInt32 := by
  unfold fnX5_fillDiscounts
  rw [r_is RB_rkf, bs]
  exact c_fillD_loop h hd hr hv pz_F 0 ra (by omega) (by unfold pz_F; omega) (fun j hj => by omega)
theorem age_nn {b : Int32} {t : Nat} (hb : 0 ≤ b.toInt) (hbt : b.toInt ≤ t) (ht : t < 1800) : 0 ≤ (nI t - b).toInt := by
  have e : (nI t).toInt = t := nI_toInt (by omega)
  rw [i32_sub (by omega) (by omega)]; omega
theorem c_fillO2_loop (h : PlF f po pi tm sr so qo tl) (hd : po + 19 ≤ ro ∨ ro + 7 ≤ po) (hr : LwR w pi tm sr so) (hy : YrR w (tl 0) (tl 1)) (hv : Vld w) {b : Int32} {t : Nat} (hb : 0 ≤ b.toInt) (hbt : b.toInt ≤ t) (ht : t < 1800) : ∀ (N i : Nat) (ra : Nat → Nat → Int32), t ≤ i → i ≤ 1800 → 1800 - i < N → (∀ m, t ≤ m → m < i → ra 2 m = (od w b (nI t) m).toInt32) → ∃ r0, fX5_fillOdds_15 N (RB ro ra ow ch f) po b (ro + 3) (lvs w (nI t - b)) (nI i) = some (RB ro (va_up ra 2 r0) ow ch f) ∧ ∀ m, t ≤ m → m < 1800 → r0 m = (od w b (nI t) m).toInt32 := by
  intro N
  induction N with
  | zero => intro i ra _ _ hh; omega
  | succ N ih =>
    intro i ra hti hi hN hl
    have h' := h.rb (ra := ra) (ow := ow) (ch := ch) hd
    show ∃ r0, fX5_fillOdds_15b _ _ _ _ _ _ _ = _ ∧ _
    unfold fX5_fillOdds_15b fX5_fillOdds_70
    by_cases e : i = 1800
    · subst e
      rw [if_pos (by decide)]
      exact ⟨ra 2, by rw [up_id], hl⟩
    · rw [if_neg (nI_1800 (by omega)), r_n2 RB_rkf, bs, if_neg (nI_1800 (by omega))]
      have go : ∀ v, v = (od w b (nI t) i).toInt32 → ∃ r0, fX5_fillOdds_63 (fX5_fillOdds_15 N) (RB ro ra ow ch f) po b (ro + 3) (lvs w (nI t - b)) (nI i) v (nI i) (ro + 3) = some (RB ro (va_up ra 2 r0) ow ch f) ∧ ∀ m, t ≤ m → m < 1800 → r0 m = (od w b (nI t) m).toInt32 := by
        intro v hv2
        unfold fX5_fillOdds_63
        rw [r_w2 RB_rkf (k := i) rfl (by omega), bs, RB_RB, nI_1]
        obtain ⟨r0, e1, e2⟩ := ih (i + 1) (va_up ra 2 (upd (ra 2) i v)) (by omega) (by omega) (by omega) (fun m h1 h2 => by
          rw [up_s]
          by_cases q : m = i
          · subst q; rw [upd_s]; exact hv2
          · rw [upd_n q]; exact hl m h1 (by omega))
        rw [up_up] at e1
        exact ⟨r0, e1, e2⟩
      by_cases c : lvs w (nI t - b) = 0
      · rw [if_pos c]
        refine go 0 ?_
        unfold od; rw [if_pos c]; rfl
      · rw [if_neg c, p_r9 h', bs, c_livesAt h' hr.1.2.2.2.2.2.2 hv hy (age_nn hb (by omega) (by omega)), bs, if_neg (i64_0 c)]
        refine go _ ?_
        unfold od; rw [if_neg c]
theorem c_fillO2 (h : PlF f po pi tm sr so qo tl) (hd : po + 19 ≤ ro ∨ ro + 7 ≤ po) (hr : LwR w pi tm sr so) (hy : YrR w (tl 0) (tl 1)) (hv : Vld w) {b p : Int32} {t : Nat} (hb : 0 ≤ b.toInt) (hbt : b.toInt ≤ t) (hp : p = nI t) (ht : t < 1800) : ∃ r0, fnX5_fillOdds (RB ro ra ow ch f) po b p (ro + 3) = some (RB ro (va_up ra 2 r0) ow ch f) ∧ ∀ m, t ≤ m → m < 1800 → r0 m = (od w b (nI t) m).toInt32 := by
  subst hp
  have h' := h.rb (ra := ra) (ow := ow) (ch := ch) hd
  unfold fnX5_fillOdds
  rw [p_r9 h', bs, c_livesAt h' hr.1.2.2.2.2.2.2 hv hy (age_nn hb hbt ht), bs]
  exact c_fillO2_loop h hd hr hy hv hb hbt ht pz_F t ra (Nat.le_refl _) (by omega) (by unfold pz_F; omega) (fun m h1 h2 => by omega)
theorem c_fillO3_loop (h : PlF f po pi tm sr so qo tl) (hd : po + 19 ≤ ro ∨ ro + 7 ≤ po) (hr : LwR w pi tm sr so) (hy : YrR w (tl 0) (tl 1)) (hv : Vld w) {b : Int32} {t : Nat} (hb : 0 ≤ b.toInt) (hbt : b.toInt ≤ t) (ht : t < 1800) : ∀ (N i : Nat) (ra : Nat → Nat → Int32), t ≤ i → i ≤ 1800 → 1800 - i < N → (∀ m, t ≤ m → m < i → ra 3 m = (od w b (nI t) m).toInt32) → ∃ r0, fX5_fillOdds_15 N (RB ro ra ow ch f) po b (ro + 4) (lvs w (nI t - b)) (nI i) = some (RB ro (va_up ra 3 r0) ow ch f) ∧ ∀ m, t ≤ m → m < 1800 → r0 m = (od w b (nI t) m).toInt32 := by
  intro N
  induction N with
  | zero => intro i ra _ _ hh; omega
  | succ N ih =>
    intro i ra hti hi hN hl
    have h' := h.rb (ra := ra) (ow := ow) (ch := ch) hd
    show ∃ r0, fX5_fillOdds_15b _ _ _ _ _ _ _ = _ ∧ _
    unfold fX5_fillOdds_15b fX5_fillOdds_70
    by_cases e : i = 1800
    · subst e
      rw [if_pos (by decide)]
      exact ⟨ra 3, by rw [up_id], hl⟩
    · rw [if_neg (nI_1800 (by omega)), r_n3 RB_rkf, bs, if_neg (nI_1800 (by omega))]
      have go : ∀ v, v = (od w b (nI t) i).toInt32 → ∃ r0, fX5_fillOdds_63 (fX5_fillOdds_15 N) (RB ro ra ow ch f) po b (ro + 4) (lvs w (nI t - b)) (nI i) v (nI i) (ro + 4) = some (RB ro (va_up ra 3 r0) ow ch f) ∧ ∀ m, t ≤ m → m < 1800 → r0 m = (od w b (nI t) m).toInt32 := by
        intro v hv2
        unfold fX5_fillOdds_63
        rw [r_w3 RB_rkf (k := i) rfl (by omega), bs, RB_RB, nI_1]
        obtain ⟨r0, e1, e2⟩ := ih (i + 1) (va_up ra 3 (upd (ra 3) i v)) (by omega) (by omega) (by omega) (fun m h1 h2 => by
          rw [up_s]
          by_cases q : m = i
          · subst q; rw [upd_s]; exact hv2
          · rw [upd_n q]; exact hl m h1 (by omega))
        rw [up_up] at e1
        exact ⟨r0, e1, e2⟩
      by_cases c : lvs w (nI t - b) = 0
      · rw [if_pos c]
        refine go 0 ?_
        unfold od; rw [if_pos c]; rfl
      · rw [if_neg c, p_r9 h', bs, c_livesAt h' hr.1.2.2.2.2.2.2 hv hy (age_nn hb (by omega) (by omega)), bs, if_neg (i64_0 c)]
        refine go _ ?_
        unfold od; rw [if_neg c]
theorem c_fillO3 (h : PlF f po pi tm sr so qo tl) (hd : po + 19 ≤ ro ∨ ro + 7 ≤ po) (hr : LwR w pi tm sr so) (hy : YrR w (tl 0) (tl 1)) (hv : Vld w) {b p : Int32} {t : Nat} (hb : 0 ≤ b.toInt) (hbt : b.toInt ≤ t) (hp : p = nI t) (ht : t < 1800) : ∃ r0, fnX5_fillOdds (RB ro ra ow ch f) po b p (ro + 4) = some (RB ro (va_up ra 3 r0) ow ch f) ∧ ∀ m, t ≤ m → m < 1800 → r0 m = (od w b (nI t) m).toInt32 := by
  subst hp
  have h' := h.rb (ra := ra) (ow := ow) (ch := ch) hd
  unfold fnX5_fillOdds
  rw [p_r9 h', bs, c_livesAt h' hr.1.2.2.2.2.2.2 hv hy (age_nn hb hbt ht), bs]
  exact c_fillO3_loop h hd hr hy hv hb hbt ht pz_F t ra (Nat.le_refl _) (by omega) (by unfold pz_F; omega) (fun m h1 h2 => by omega)
/-- rows 1 and 3 are laid for the month t -/
def RwA (w : Nat → Int32) (ra : Nat → Nat → Int32) (b : Int32) (t : Nat) : Prop := (∀ k, k < 1800 → ra 1 k = (dsc w k).toInt32) ∧ ∀ m, t ≤ m → m < 1800 → ra 3 m = (od w b (nI t) m).toInt32
theorem c_annIn (hv : Vld w) {b : Int32} {t m : Nat} {p q : Int32} (hA : RwA w ra b t) (hb : 0 ≤ b.toInt) (hbt : b.toInt ≤ t) (hp : p = nI t) (hq : q = nI m) (htm : t ≤ m) (hm : m < 1800) : fnX5_annuityIn (RB ro ra ow ch f) ro p q = some (dsc w (m - t) * od w b (nI t) m / 1000000000) := by
  subst hp hq
  unfold fnX5_annuityIn
  rw [r_is RB_rkf, bs, r_r1 RB_rkf, bs, nI_sub htm, r_i1 RB_rkf (k := m - t) rfl (by omega), bs, r_r3 RB_rkf, bs, r_i3 RB_rkf (k := m) rfl hm, bs, hA.1 _ (by omega), hA.2 m htm hm, dsc_64 hv, od_64 hv hb hbt htm hm]
theorem c_ann_loop (hv : Vld w) {b : Int32} {t s : Nat} (hA : RwA w ra b t) (hb : 0 ≤ b.toInt) (hbt : b.toInt ≤ t) (hts : t ≤ s) (hs : s ≤ 1800) : ∀ (N i : Nat), s + i ≤ 1800 → 1800 - (s + i) < N → fX5_annuityOf_22 N (RB ro ra ow ch f) ro (nI t) (smA (fun m => dsc w (m - t) * od w b (nI t) m / 1000000000) s i) (nI (s + i)) = some (ann w b t s, RB ro ra ow ch f) := by
  intro N
  induction N with
  | zero => intro i _ hh; omega
  | succ N ih =>
    intro i hi hN
    show fX5_annuityOf_22b _ _ _ _ _ _ = _
    unfold fX5_annuityOf_22b
    by_cases e : s + i = 1800
    · rw [e, if_pos (by decide)]
      unfold ann
      rw [show 1800 - s = i by omega]
    · rw [if_neg (nI_1800 (by omega)), c_annIn hv hA hb hbt rfl rfl (by omega) (by omega), bs, nI_1]
      have key := ih (i + 1) (by omega) (by omega)
      exact key
theorem c_ann (h : PlF f po pi tm sr so qo tl) (hd : po + 19 ≤ ro ∨ ro + 7 ≤ po) (hr : LwR w pi tm sr so) (hy : YrR w (tl 0) (tl 1)) (hv : Vld w) {b p q : Int32} {t s : Nat} (hb : 0 ≤ b.toInt) (hbt : b.toInt ≤ t) (hp : p = nI t) (ht : t < 1800) (hq : q = nI s) (hts : t ≤ s) (hs : s < 1800) : ∃ ra', fnX5_annuityOf (RB ro ra ow ch f) ro po b p q = some (ann w b t s, RB ro ra' ow ch f) ∧ RwA w ra' b t ∧ ra' 0 = ra 0 ∧ ra' 2 = ra 2 := by
  subst hp hq
  unfold fnX5_annuityOf
  obtain ⟨r1, e1, f1⟩ := c_fillD (ra := ra) (ow := ow) (ch := ch) h hd hr hv
  obtain ⟨r3, e3, f3⟩ := c_fillO3 (ra := va_up ra 1 r1) (ow := ow) (ch := ch) h hd hr hy hv hb hbt rfl ht
  rw [r_is RB_rkf, bs, e1, bs, r_r3 RB_rkf, bs, e3, bs]
  have hA : RwA w (va_up (va_up ra 1 r1) 3 r3) b t := ⟨fun k hk => by rw [up_n (by decide), up_s]; exact f1 k hk, fun m h1 h2 => by rw [up_s]; exact f3 m h1 h2⟩
  have key := c_ann_loop (ro := ro) (f := f) (ow := ow) (ch := ch) hv hA hb hbt hts (by omega) pz_F 0 (by omega) (by unfold pz_F; omega)
  exact ⟨_, key, hA, by rw [up_n (by decide), up_n (by decide)], by rw [up_n (by decide), up_n (by decide)]⟩
end CC
