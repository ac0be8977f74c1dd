/-! ===== the class's table of lives ===== -/
def YrR (w ys ls : Nat → Int32) : Prop := (∀ i, i + 1 < cY w → (ys i).toInt < (ys (i + 1)).toInt) ∧ (∀ i, i < cY w → ∃ j, j < cY w ∧ ys i = w (67 + 2 * j) ∧ ls i = w (68 + 2 * j)) ∧ ∀ j, j < cY w → ∃ i, i < cY w ∧ ys i = w (67 + 2 * j) ∧ ls i = w (68 + 2 * j)
theorem ys_lt {w ys ls : Nat → Int32} (h : YrR w ys ls) : ∀ d i, i + d + 1 < cY w → (ys i).toInt < (ys (i + d + 1)).toInt
  | 0, i, hi => h.1 i hi
  | d + 1, i, hi => by
    have h1 := ys_lt h d i (by omega)
    have h2 := h.1 (i + d + 1) (by omega)
    rw [show i + (d + 1) + 1 = i + d + 1 + 1 by omega]; omega
theorem ys_lt' {w ys ls : Nat → Int32} (h : YrR w ys ls) {i j : Nat} (hij : i < j) (hj : j < cY w) : (ys i).toInt < (ys j).toInt := by
  have := ys_lt h (j - i - 1) i (by omega)
  rw [show i + (j - i - 1) + 1 = j by omega] at this; exact this
theorem lvS_lo {w : Nat → Int32} (hv : Vld w) {age : Int32} (h0 : 0 ≤ age.toInt) : ∀ k, k ≤ cY w → ((lvS w age k).1 = 0 ∧ (lvS w age k).2.1 = 100000 ∧ ∀ i, i < k → age.toInt < 12 * (w (67 + 2 * i)).toInt) ∨ ∃ j, j < k ∧ 12 * (w (67 + 2 * j)).toInt ≤ age.toInt ∧ (lvS w age k).1 = 12 * w (67 + 2 * j) ∧ (lvS w age k).2.1 = w (68 + 2 * j) ∧ ∀ i, i < k → 12 * (w (67 + 2 * i)).toInt ≤ age.toInt → (w (67 + 2 * i)).toInt ≤ (w (67 + 2 * j)).toInt
  | 0, _ => Or.inl ⟨rfl, rfl, fun i hi => by omega⟩
  | k + 1, hk => by
    have e := yr_toInt hv (y := k) (by omega)
    obtain ⟨⟨y1, y2⟩, -⟩ := hv.2.2.2.2.2.2.2.2.2.2.2.2.2.1 k (by omega)
    have e1 : (lvS w age (k + 1)).1 = if age < 12 * w (67 + 2 * k) then (lvS w age k).1 else if 12 * w (67 + 2 * k) < (lvS w age k).1 then (lvS w age k).1 else 12 * w (67 + 2 * k) := rfl
    have e2 : (lvS w age (k + 1)).2.1 = if age < 12 * w (67 + 2 * k) then (lvS w age k).2.1 else if 12 * w (67 + 2 * k) < (lvS w age k).1 then (lvS w age k).2.1 else w (68 + 2 * k) := rfl
    rw [e1, e2]
    have ih := lvS_lo hv h0 k (by omega)
    by_cases c : age < 12 * w (67 + 2 * k)
    · rw [if_pos c, if_pos c]
      rw [i32_lt, e] at c
      rcases ih with ⟨a, b, d⟩ | ⟨j, a, b, d, f, g⟩
      · refine Or.inl ⟨a, b, fun i hi => ?_⟩
        by_cases q : i = k
        · subst q; exact c
        · exact d i (by omega)
      · refine Or.inr ⟨j, by omega, b, d, f, fun i hi hh => ?_⟩
        by_cases q : i = k
        · subst q; omega
        · exact g i (by omega) hh
    · rw [if_neg c, if_neg c]
      rw [i32_lt, e] at c
      rcases ih with ⟨a, b, d⟩ | ⟨j, a, b, d, f, g⟩
      · rw [a, if_neg (by rw [i32_lt, e, z32]; omega), if_neg (by rw [i32_lt, e, z32]; omega)]
        refine Or.inr ⟨k, by omega, by omega, rfl, rfl, fun i hi hh => ?_⟩
        by_cases q : i = k
        · subst q; exact Int.le_refl _
        · have := d i (by omega); omega
      · have ej := yr_toInt hv (y := j) (by omega)
        rw [d]
        by_cases c2 : 12 * w (67 + 2 * k) < 12 * w (67 + 2 * j)
        · rw [if_pos c2, if_pos c2]
          rw [i32_lt, e, ej] at c2
          refine Or.inr ⟨j, by omega, b, rfl, f, fun i hi hh => ?_⟩
          by_cases q : i = k
          · subst q; omega
          · exact g i (by omega) hh
        · rw [if_neg c2, if_neg c2]
          rw [i32_lt, e, ej] at c2
          refine Or.inr ⟨k, by omega, by omega, rfl, rfl, fun i hi hh => ?_⟩
          by_cases q : i = k
          · subst q; exact Int.le_refl _
          · have := g i (by omega) hh; omega
theorem lvS_hi {w : Nat → Int32} (hv : Vld w) {age : Int32} (h0 : 0 ≤ age.toInt) : ∀ k, k ≤ cY w → ((lvS w age k).2.2.1 = 1440 ∧ (lvS w age k).2.2.2 = 0 ∧ ∀ i, i < k → 12 * (w (67 + 2 * i)).toInt ≤ age.toInt) ∨ ∃ j, j < k ∧ age.toInt < 12 * (w (67 + 2 * j)).toInt ∧ (lvS w age k).2.2.1 = 12 * w (67 + 2 * j) ∧ (lvS w age k).2.2.2 = w (68 + 2 * j) ∧ ∀ i, i < k → age.toInt < 12 * (w (67 + 2 * i)).toInt → (w (67 + 2 * j)).toInt ≤ (w (67 + 2 * i)).toInt
  | 0, _ => Or.inl ⟨rfl, rfl, fun i hi => by omega⟩
  | k + 1, hk => by
    have e := yr_toInt hv (y := k) (by omega)
    obtain ⟨⟨y1, y2⟩, -⟩ := hv.2.2.2.2.2.2.2.2.2.2.2.2.2.1 k (by omega)
    have e1 : (lvS w age (k + 1)).2.2.1 = if 12 * w (67 + 2 * k) ≤ age then (lvS w age k).2.2.1 else if (lvS w age k).2.2.1 ≤ 12 * w (67 + 2 * k) then (lvS w age k).2.2.1 else 12 * w (67 + 2 * k) := rfl
    have e2 : (lvS w age (k + 1)).2.2.2 = if 12 * w (67 + 2 * k) ≤ age then (lvS w age k).2.2.2 else if (lvS w age k).2.2.1 ≤ 12 * w (67 + 2 * k) then (lvS w age k).2.2.2 else w (68 + 2 * k) := rfl
    rw [e1, e2]
    have ih := lvS_hi hv h0 k (by omega)
    by_cases c : 12 * w (67 + 2 * k) ≤ age
    · rw [if_pos c, if_pos c]
      rw [i32_le, e] at c
      rcases ih with ⟨a, b, d⟩ | ⟨j, a, b, d, f, g⟩
      · refine Or.inl ⟨a, b, fun i hi => ?_⟩
        by_cases q : i = k
        · subst q; exact c
        · exact d i (by omega)
      · refine Or.inr ⟨j, by omega, b, d, f, fun i hi hh => ?_⟩
        by_cases q : i = k
        · subst q; omega
        · exact g i (by omega) hh
    · rw [if_neg c, if_neg c]
      rw [i32_le, e] at c
      rcases ih with ⟨a, b, d⟩ | ⟨j, a, b, d, f, g⟩
      · have x : (1440 : Int32).toInt = 1440 := rfl
        rw [a, if_neg (by rw [i32_le, e, x]; omega), if_neg (by rw [i32_le, e, x]; omega)]
        refine Or.inr ⟨k, by omega, by omega, rfl, rfl, fun i hi hh => ?_⟩
        by_cases q : i = k
        · subst q; exact Int.le_refl _
        · have := d i (by omega); omega
      · have ej := yr_toInt hv (y := j) (by omega)
        rw [d]
        by_cases c2 : 12 * w (67 + 2 * j) ≤ 12 * w (67 + 2 * k)
        · rw [if_pos c2, if_pos c2]
          rw [i32_le, e, ej] at c2
          refine Or.inr ⟨j, by omega, b, rfl, f, fun i hi hh => ?_⟩
          by_cases q : i = k
          · subst q; omega
          · exact g i (by omega) hh
        · rw [if_neg c2, if_neg c2]
          rw [i32_le, e, ej] at c2
          refine Or.inr ⟨k, by omega, by omega, rfl, rfl, fun i hi hh => ?_⟩
          by_cases q : i = k
          · subst q; exact Int.le_refl _
          · have := g i (by omega) hh; omega
/-- low age, low, high age, high by the place in the sorted table -/
def loA (ys : Nat → Int32) (p : Nat) : Int32 := if p = 0 then 0 else 12 * ys (p - 1)
def loL (ls : Nat → Int32) (p : Nat) : Int32 := if p = 0 then 100000 else ls (p - 1)
def hiA (ys : Nat → Int32) (c p : Nat) : Int32 := if p = c then 1440 else 12 * ys p
def hiL (ls : Nat → Int32) (c p : Nat) : Int32 := if p = c then 0 else ls p
theorem lvS_eq {w ys ls : Nat → Int32} (hv : Vld w) (hy : YrR w ys ls) {age : Int32} (h0 : 0 ≤ age.toInt) {p : Nat} (hp : p ≤ cY w) (h1 : ∀ i, i < p → 12 * (ys i).toInt ≤ age.toInt) (h2 : p < cY w → age.toInt < 12 * (ys p).toInt) : lvS w age (cY w) = (loA ys p, loL ls p, hiA ys (cY w) p, hiL ls (cY w) p) := by
  have up : ∀ i, p ≤ i → i < cY w → age.toInt < 12 * (ys i).toInt := by
    intro i a b
    by_cases q : i = p
    · subst q; exact h2 b
    · have := ys_lt' hy (show p < i by omega) b
      have := h2 (by omega); omega
  have lo := lvS_lo hv h0 (cY w) (Nat.le_refl _)
  have hi := lvS_hi hv h0 (cY w) (Nat.le_refl _)
  have L : (lvS w age (cY w)).1 = loA ys p ∧ (lvS w age (cY w)).2.1 = loL ls p := by
    unfold loA loL
    by_cases c : p = 0
    · rw [if_pos c, if_pos c]
      rcases lo with ⟨a, b, _⟩ | ⟨j, a, b, _⟩
      · exact ⟨a, b⟩
      · obtain ⟨i, i1, i2, i3⟩ := hy.2.2 j a
        have := up i (by omega) i1
        rw [i2] at this; omega
    · rw [if_neg c, if_neg c]
      obtain ⟨j0, a0, b0, c0⟩ := hy.2.1 (p - 1) (by omega)
      have hh := h1 (p - 1) (by omega)
      rw [b0] at hh
      rcases lo with ⟨a, b, d⟩ | ⟨j, a, b, d, e, g⟩
      · have := d j0 a0; omega
      · obtain ⟨i, i1, i2, i3⟩ := hy.2.2 j a
        have hij : i < p := by
          rcases Nat.lt_or_ge i p with q | q
          · exact q
          · have := up i q i1; rw [i2] at this; omega
        have hi2 : i = p - 1 := by
          rcases Nat.lt_or_ge i (p - 1) with q | q
          · have := ys_lt' hy q (by omega)
            have := g j0 a0 hh
            rw [i2, b0] at *; omega
          · omega
        rw [d, e, ← hi2, i2, i3]; exact ⟨rfl, rfl⟩
  have H : (lvS w age (cY w)).2.2.1 = hiA ys (cY w) p ∧ (lvS w age (cY w)).2.2.2 = hiL ls (cY w) p := by
    unfold hiA hiL
    by_cases c : p = cY w
    · rw [if_pos c, if_pos c]
      rcases hi with ⟨a, b, _⟩ | ⟨j, a, b, _⟩
      · exact ⟨a, b⟩
      · obtain ⟨i, i1, i2, i3⟩ := hy.2.2 j a
        have := h1 i (by omega)
        rw [i2] at this; omega
    · rw [if_neg c, if_neg c]
      obtain ⟨j0, a0, b0, c0⟩ := hy.2.1 p (by omega)
      have hh := h2 (by omega)
      rw [b0] at hh
      rcases hi with ⟨a, b, d⟩ | ⟨j, a, b, d, e, g⟩
      · have := d j0 a0; omega
      · obtain ⟨i, i1, i2, i3⟩ := hy.2.2 j a
        have hij : p ≤ i := by
          rcases Nat.lt_or_ge i p with q | q
          · have := h1 i q; rw [i2] at this; omega
          · exact q
        have hi2 : i = p := by
          rcases Nat.lt_or_ge p i with q | q
          · have z1 := ys_lt' hy q i1
            have z2 := g j0 a0 hh
            rw [i2, b0] at z1; omega
          · omega
        rw [d, e, ← hi2, i2, i3]; exact ⟨rfl, rfl⟩
  refine Prod.ext L.1 (Prod.ext L.2 (Prod.ext H.1 H.2))
section CB
variable {po : Nat} {w pi tm : Nat → Int32} {sr : Nat → Nat} {so qo tl : Nat → Nat → Int32} {f : pz_H}
theorem ys_toInt {ys ls : Nat → Int32} (hv : Vld w) (hy : YrR w ys ls) {i : Nat} (hi : i < cY w) : (12 * ys i).toInt = 12 * (ys i).toInt := by
  obtain ⟨j, a, b, _⟩ := hy.2.1 i hi
  rw [b]; exact yr_toInt hv a
theorem c_lives_loop (h : PlF f po pi tm sr so qo tl) (h9 : pi 9 = w 5) (hv : Vld w) (hy : YrR w (tl 0) (tl 1)) {age : Int32} : ∀ (N i : Nat), i ≤ cY w → cY w - i < N → (∀ j, j < i → 12 * (tl 0 j).toInt ≤ age.toInt) → ∃ p, fX2_livesAt_11 f N (po + 4) age (nI i) = fX2_livesAt_38 f (po + 4) age (nI p) ∧ p ≤ cY w ∧ (∀ j, j < p → 12 * (tl 0 j).toInt ≤ age.toInt) ∧ (p < cY w → age.toInt < 12 * (tl 0 p).toInt) := by
  intro N
  have hY := hv.1.2.2
  induction N with
  | zero => intro i _ hh; omega
  | succ N ih =>
    intro i hi hN hl
    show ∃ p, fX2_livesAt_11b _ _ _ _ _ = _ ∧ _
    unfold fX2_livesAt_11b
    simp only [p_t2 h, p_t0 h, bs]
    rw [h9, hY.1]
    by_cases c : i = cY w
    · rw [if_pos (by rw [c]; exact Int32.le_refl _)]
      exact ⟨i, rfl, hi, hl, fun z => by omega⟩
    · have hlt : i < cY w := by omega
      rw [if_neg (by rw [nI_leI (by omega) (by omega)]; omega)]
      simp only [p_ys h (i := nI i) rfl (show i < 10 by omega), bs, nI_1]
      have e := ys_toInt hv hy hlt
      by_cases d : age < 12 * tl 0 i
      · rw [if_pos d]
        rw [i32_lt, e] at d
        exact ⟨i, rfl, hi, hl, fun _ => d⟩
      · rw [if_neg d]
        rw [i32_lt, e] at d
        exact ih (i + 1) (by omega) (by omega) (fun j hj => by
          by_cases q : j = i
          · subst q; omega
          · exact hl j (by omega))
theorem c_livesAt (h : PlF f po pi tm sr so qo tl) (h9 : pi 9 = w 5) (hv : Vld w) (hy : YrR w (tl 0) (tl 1)) {age : Int32} (h0 : 0 ≤ age.toInt) : fnX2_livesAt f (po + 4) age = some (lvs w age) := by
  unfold fnX2_livesAt lvs
  have hY := hv.1.2.2
  simp only [p_tis h, bs]
  refine (Decidable.em (age < 1440)).symm.elim (fun c => by rw [if_neg c, if_neg c]) (fun c => ?_)
  rw [if_pos c, if_pos c]
  have ha : age.toInt < 1440 := i32_lt.mp c
  obtain ⟨p, e1, hp, h1, h2⟩ := c_lives_loop h h9 hv hy (age := age) pz_F 0 (by omega) (by unfold pz_F; omega) (fun j hj => by omega)
  have e0 : fX2_livesAt_11 f pz_F (po + 4) age 0 = _ := e1
  rw [e0]
  have inv := lvS_inv hv h0 ha (cY w) (Nat.le_refl _)
  have eqS := lvS_eq hv hy h0 hp h1 h2
  rw [eqS] at inv ⊢
  have inv : (0 ≤ (loA (tl 0) p).toInt ∧ (loA (tl 0) p).toInt ≤ age.toInt) ∧ (age.toInt < (hiA (tl 0) (cY w) p).toInt ∧ (hiA (tl 0) (cY w) p).toInt ≤ 1440) ∧ (0 ≤ (loL (tl 1) p).toInt ∧ (loL (tl 1) p).toInt ≤ 100000) ∧ (0 ≤ (hiL (tl 1) (cY w) p).toInt ∧ (hiL (tl 1) (cY w) p).toInt ≤ 100000) := inv
  have fin : fX2_livesAt_38 f (po + 4) age (nI p) = fX2_livesAt_120 f age (loA (tl 0) p) (loL (tl 1) p) (hiA (tl 0) (cY w) p) (hiL (tl 1) (cY w) p) := by
    have p0 : (nI p = 0) ↔ p = 0 := by rw [i32_eq, nI_toInt (by omega), z32]; omega
    have pc : (nI p = nI (cY w)) ↔ p = cY w := by rw [i32_eq, nI_toInt (by omega), nI_toInt (by omega)]; omega
    unfold fX2_livesAt_38 fX2_livesAt_57 fX2_livesAt_75 fX2_livesAt_100 loA loL hiA hiL
    simp only [p_t0 h, p_t1 h, p_t2 h, bs]
    rw [h9, hY.1]
    by_cases a : p = 0
    · rw [if_pos (p0.mpr a), if_pos (p0.mpr a), if_pos a, if_pos a]
      by_cases b : p = cY w
      · rw [if_pos (pc.mpr b), if_pos (pc.mpr b), if_pos b, if_pos b]
      · rw [if_neg (fun z => b (pc.mp z)), if_neg b, if_neg b, p_ys h rfl (by omega), bs, if_neg (fun z => b (pc.mp z)), p_ls h rfl (by omega), bs]
    · rw [if_neg (fun z => a (p0.mp z)), if_neg a, if_neg a, pred_nI (by omega), p_ys h rfl (by omega), bs, if_neg (fun z => a (p0.mp z)), p_ls h (k := p - 1) rfl (by omega), bs]
      by_cases b : p = cY w
      · rw [if_pos (pc.mpr b), if_pos (pc.mpr b), if_pos b, if_pos b]
      · rw [if_neg (fun z => b (pc.mp z)), if_neg b, if_neg b, p_ys h (k := p) rfl (by omega), bs, if_neg (fun z => b (pc.mp z)), p_ls h (k := p) rfl (by omega), bs]
  rw [fin]
  unfold lvE
  dsimp only
  generalize loA (tl 0) p = A at *
  generalize loL (tl 1) p = B at *
  generalize hiA (tl 0) (cY w) p = C at *
  generalize hiL (tl 1) (cY w) p = D at *
  obtain ⟨⟨i1, i2⟩, ⟨i3, i4⟩, ⟨i5, i6⟩, i7, i8⟩ := inv
  unfold fX2_livesAt_120
  have d1 : (C - A).toInt = C.toInt - A.toInt := i32_sub (by omega) (by omega)
  have d2 : (C - age).toInt = C.toInt - age.toInt := i32_sub (by omega) (by omega)
  have d3 : (age - A).toInt = age.toInt - A.toInt := i32_sub (by omega) (by omega)
  rw [if_pos (by rw [i32_lt, z32, d1]; omega), if_neg (by rw [i32_eq, z32, d1]; omega)]
  congr 1
  have m1 : 0 ≤ B.toInt * (C.toInt - age.toInt) := Int.mul_nonneg i5 (by omega)
  have m2 : B.toInt * (C.toInt - age.toInt) ≤ 100000 * (C.toInt - age.toInt) := Int.mul_le_mul_of_nonneg_right i6 (by omega)
  have m3 : 0 ≤ D.toInt * (age.toInt - A.toInt) := Int.mul_nonneg i7 (by omega)
  have m4 : D.toInt * (age.toInt - A.toInt) ≤ 100000 * (age.toInt - A.toInt) := Int.mul_le_mul_of_nonneg_right i8 (by omega)
  have s1 : (B * (C - age)).toInt = B.toInt * (C.toInt - age.toInt) := by rw [i32_mul (by rw [d2]; omega) (by rw [d2]; omega), d2]
  have s2 : (D * (age - A)).toInt = D.toInt * (age.toInt - A.toInt) := by rw [i32_mul (by rw [d3]; omega) (by rw [d3]; omega), d3]
  have s3 : (B * (C - age) + D * (age - A)).toInt = B.toInt * (C.toInt - age.toInt) + D.toInt * (age.toInt - A.toInt) := by rw [i32_add (by omega) (by omega), s1, s2]
  have t1 : (B.toInt64 * (C - age).toInt64).toInt = B.toInt * (C.toInt - age.toInt) := by rw [i64_mul (by rw [i64_of, i64_of, d2]; omega) (by rw [i64_of, i64_of, d2]; omega), i64_of, i64_of, d2]
  have t2 : (D.toInt64 * (age - A).toInt64).toInt = D.toInt * (age.toInt - A.toInt) := by rw [i64_mul (by rw [i64_of, i64_of, d3]; omega) (by rw [i64_of, i64_of, d3]; omega), i64_of, i64_of, d3]
  have t3 : (B.toInt64 * (C - age).toInt64 + D.toInt64 * (age - A).toInt64).toInt = B.toInt * (C.toInt - age.toInt) + D.toInt * (age.toInt - A.toInt) := by rw [i64_add (by omega) (by omega), t1, t2]
  have q1 := i32_div (x := B * (C - age) + D * (age - A)) (y := C - A) (by omega) (by omega)
  have q2 := i64_div (x := B.toInt64 * (C - age).toInt64 + D.toInt64 * (age - A).toInt64) (y := (C - A).toInt64) (by omega) (by rw [i64_of]; omega)
  rw [i64_of, t3] at q2
  rw [s3] at q1
  have b1 : 0 ≤ (B.toInt * (C.toInt - age.toInt) + D.toInt * (age.toInt - A.toInt)) / (C - A).toInt := Int.ediv_nonneg (by omega) (by omega)
  have b2 : (B.toInt * (C.toInt - age.toInt) + D.toInt * (age.toInt - A.toInt)) / (C - A).toInt ≤ B.toInt * (C.toInt - age.toInt) + D.toInt * (age.toInt - A.toInt) := Int.ediv_le_self _ (by omega)
  rw [i32_eq, q1, i32_of (by omega) (by omega), q2]
end CB
