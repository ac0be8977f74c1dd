/-! ===== bounds: wholes, discounts, odds ===== -/
theorem i32_12 {m r : Nat} (h : r ≤ m) (hm : m < 1800) : ((nI m - nI r) - (nI m - nI r) / 12 * 12).toInt = ((m - r) % 12 : Nat) := by
  have x : (12 : Int32).toInt = 12 := rfl
  have e := i32_rem (a := nI (m - r)) (b := 12) (by rw [nI_toInt (by omega)]; omega) (by decide)
  rw [nI_sub h, e, nI_toInt (by omega), x]; omega
theorem vW_bd {w : Nat → Int32} (hv : Vld w) (h1 : ¬ w 1 = -1) : ∀ m, m ≤ 1800 → 0 ≤ (vW w m).toInt ∧ (vW w m).toInt ≤ gB ((m - 1 - rT w) / 12)
  | 0, _ => by
    have := first_bd hv
    unfold vW; rw [i64_of]
    have e : (0 - 1 - rT w) / 12 = 0 := by rw [show 0 - 1 - rT w = 0 by omega]
    rw [e]; exact this
  | m + 1, hm => by
    obtain ⟨r1, r2, r3, r4⟩ := hv.r h1
    obtain ⟨a, b⟩ := vW_bd hv h1 m (by omega)
    have up := gB_mono ((m + 1 - 1 - rT w) / 12 - (m - 1 - rT w) / 12) ((m - 1 - rT w) / 12)
    rw [show (m - 1 - rT w) / 12 + ((m + 1 - 1 - rT w) / 12 - (m - 1 - rT w) / 12) = (m + 1 - 1 - rT w) / 12 by omega] at up
    show 0 ≤ (stW w m (vW w m)).toInt ∧ (stW w m (vW w m)).toInt ≤ _
    unfold stW
    rw [if_neg h1]
    by_cases c1 : nI m < w 1
    · rw [if_pos c1]; omega
    rw [if_neg c1]
    by_cases c2 : nI m ≤ w 1
    · rw [if_pos c2]; omega
    rw [if_neg c2]
    rw [r1, nI_leI (by omega) (by omega)] at c2
    by_cases c3 : (nI m - w 1) - (nI m - w 1) / 12 * 12 = 0
    · rw [if_pos c3]
      rw [r1, i32_eq, i32_12 (by omega) (by omega), z32] at c3
      have h9 := hv.2.2.2.2.2.2.2.1
      have x : (1000 : Int32).toInt = 1000 := rfl
      have x6 : (1000 : Int64).toInt = 1000 := rfl
      have e1 : (1000 + w 9).toInt = 1000 + (w 9).toInt := by rw [i32_add (by omega) (by omega), x]
      have g150 : gB ((m - 1 - rT w) / 12) ≤ 600000000 := gB_150 (by omega)
      have m0 : 0 ≤ (vW w m).toInt * (1000 + (w 9).toInt) := Int.mul_nonneg a (by omega)
      have m1 : (vW w m).toInt * (1000 + (w 9).toInt) ≤ gB ((m - 1 - rT w) / 12) * 1030 := Int.mul_le_mul b (by omega) (by omega) (by omega)
      have e2 : (vW w m * (1000 + w 9).toInt64).toInt = (vW w m).toInt * (1000 + (w 9).toInt) := by rw [i64_mul (by rw [i64_of, e1]; omega) (by rw [i64_of, e1]; omega), i64_of, e1]
      have e3 : (vW w m * (1000 + w 9).toInt64 / 1000).toInt = (vW w m).toInt * (1000 + (w 9).toInt) / 1000 := by rw [i64_div (by omega) (by rw [x6]; decide), e2, x6]
      rw [e3, show (m + 1 - 1 - rT w) / 12 = (m - 1 - rT w) / 12 + 1 by omega]
      have d0 : 0 ≤ (vW w m).toInt * (1000 + (w 9).toInt) / 1000 := Int.ediv_nonneg m0 (by decide)
      have d1 : (vW w m).toInt * (1000 + (w 9).toInt) / 1000 ≤ gB ((m - 1 - rT w) / 12) * 1030 / 1000 := Int.ediv_le_ediv (by decide) m1
      exact ⟨d0, d1⟩
    · rw [if_neg c3]; omega
theorem whl_bd {w : Nat → Int32} (hv : Vld w) {m : Nat} (hm : m < 1800) : 0 ≤ (whl w m).toInt ∧ (whl w m).toInt ≤ 600000000 := by
  unfold whl
  by_cases c : w 1 = -1
  · rw [if_pos c]; decide
  rw [if_neg c]
  by_cases d : nI m < w 1
  · rw [if_pos d]; decide
  rw [if_neg d]
  obtain ⟨a, b⟩ := vW_bd hv c (m + 1) (by omega)
  exact ⟨a, Int.le_trans b (gB_150 (by omega))⟩
theorem whl_64 {w : Nat → Int32} (hv : Vld w) {m : Nat} (hm : m < 1800) : (whl w m).toInt32.toInt64 = whl w m := by
  have := whl_bd hv hm
  exact i64_back (by omega) (by omega)
theorem dsc_bd {w : Nat → Int32} (hv : Vld w) : ∀ k, 0 ≤ (dsc w k).toInt ∧ (dsc w k).toInt ≤ 1000000000
  | 0 => by show 0 ≤ (1000000000 : Int64).toInt ∧ (1000000000 : Int64).toInt ≤ 1000000000; decide
  | k + 1 => by
    obtain ⟨a, b⟩ := dsc_bd hv k
    have h10 := hv.2.2.2.2.2.2.2.2.1
    have x : (12000 : Int64).toInt = 12000 := rfl
    have e1 : ((12000 : Int64) + (w 10).toInt64).toInt = 12000 + (w 10).toInt := by rw [i64_add (by rw [i64_of]; omega) (by rw [i64_of]; omega), i64_of, x]
    have e2 : (dsc w k * 12000).toInt = (dsc w k).toInt * 12000 := by rw [i64_mul (by rw [x]; omega) (by rw [x]; omega), x]
    show 0 ≤ (dsc w k * 12000 / (12000 + (w 10).toInt64)).toInt ∧ (dsc w k * 12000 / (12000 + (w 10).toInt64)).toInt ≤ _
    rw [i64_div (by omega) (by omega), e1, e2]
    have d0 : 0 ≤ (dsc w k).toInt * 12000 / (12000 + (w 10).toInt) := Int.ediv_nonneg (by omega) (by omega)
    have d1 : (dsc w k).toInt * 12000 / (12000 + (w 10).toInt) ≤ (dsc w k).toInt := by
      have h : (dsc w k).toInt * 12000 ≤ (dsc w k).toInt * (12000 + (w 10).toInt) := Int.mul_le_mul_of_nonneg_left (by omega) a
      have h2 := Int.ediv_le_ediv (show 0 < 12000 + (w 10).toInt by omega) h
      rw [Int.mul_ediv_cancel _ (by omega)] at h2; exact h2
    omega
theorem dsc_64 {w : Nat → Int32} (hv : Vld w) (k : Nat) : (dsc w k).toInt32.toInt64 = dsc w k := by
  have := dsc_bd hv k
  exact i64_back (by omega) (by omega)
/-- lives, as a number -/
theorem lvE_toInt {age A B C D : Int32} (i1 : 0 ≤ A.toInt) (i2 : A.toInt ≤ age.toInt) (i3 : age.toInt < C.toInt) (i4 : C.toInt ≤ 1440) (i5 : 0 ≤ B.toInt ∧ B.toInt ≤ 100000) (i7 : 0 ≤ D.toInt ∧ D.toInt ≤ 100000) : (lvE age (A, B, C, D)).toInt = (B.toInt * (C.toInt - age.toInt) + D.toInt * (age.toInt - A.toInt)) / (C.toInt - A.toInt) := by
  have d1 : (C - A).toInt = C.toInt - A.toInt := i32_sub (by omega) (by omega)
  have d2 : (C - age).toInt = C.toInt - age.toInt := i32_sub (by omega) (by omega)
  have d3 : (age - A).toInt = age.toInt - A.toInt := i32_sub (by omega) (by omega)
  have m1 : 0 ≤ B.toInt * (C.toInt - age.toInt) := Int.mul_nonneg i5.1 (by omega)
  have m2 : B.toInt * (C.toInt - age.toInt) ≤ 100000 * (C.toInt - age.toInt) := Int.mul_le_mul_of_nonneg_right i5.2 (by omega)
  have m3 : 0 ≤ D.toInt * (age.toInt - A.toInt) := Int.mul_nonneg i7.1 (by omega)
  have m4 : D.toInt * (age.toInt - A.toInt) ≤ 100000 * (age.toInt - A.toInt) := Int.mul_le_mul_of_nonneg_right i7.2 (by omega)
  have t1 : (B.toInt64 * (C - age).toInt64).toInt = B.toInt * (C.toInt - age.toInt) := by rw [i64_mul (by rw [i64_of, i64_of, d2]; omega) (by rw [i64_of, i64_of, d2]; omega), i64_of, i64_of, d2]
  have t2 : (D.toInt64 * (age - A).toInt64).toInt = D.toInt * (age.toInt - A.toInt) := by rw [i64_mul (by rw [i64_of, i64_of, d3]; omega) (by rw [i64_of, i64_of, d3]; omega), i64_of, i64_of, d3]
  have t3 : (B.toInt64 * (C - age).toInt64 + D.toInt64 * (age - A).toInt64).toInt = B.toInt * (C.toInt - age.toInt) + D.toInt * (age.toInt - A.toInt) := by rw [i64_add (by omega) (by omega), t1, t2]
  have q2 := i64_div (x := B.toInt64 * (C - age).toInt64 + D.toInt64 * (age - A).toInt64) (y := (C - A).toInt64) (by omega) (by rw [i64_of]; omega)
  rw [i64_of, t3, d1] at q2
  have b1 : 0 ≤ (B.toInt * (C.toInt - age.toInt) + D.toInt * (age.toInt - A.toInt)) / (C.toInt - A.toInt) := Int.ediv_nonneg (by omega) (by omega)
  have b2 : (B.toInt * (C.toInt - age.toInt) + D.toInt * (age.toInt - A.toInt)) / (C.toInt - A.toInt) ≤ B.toInt * (C.toInt - age.toInt) + D.toInt * (age.toInt - A.toInt) := Int.ediv_le_self _ (by omega)
  unfold lvE
  dsimp only
  rw [i32_of (by omega) (by omega), q2]
theorem ip_bd {A B C D a : Int} (h1 : A ≤ a) (h2 : a < C) (h3 : D ≤ B) : D ≤ (B * (C - a) + D * (a - A)) / (C - A) ∧ (B * (C - a) + D * (a - A)) / (C - A) ≤ B := by
  have e1 : D * (C - A) = D * (C - a) + D * (a - A) := by rw [← Int.mul_add]; congr 1; omega
  have e2 : B * (C - A) = B * (C - a) + B * (a - A) := by rw [← Int.mul_add]; congr 1; omega
  have g1 : D * (C - a) ≤ B * (C - a) := Int.mul_le_mul_of_nonneg_right h3 (by omega)
  have g2 : D * (a - A) ≤ B * (a - A) := Int.mul_le_mul_of_nonneg_right h3 (by omega)
  have q1 := Int.ediv_le_ediv (show 0 < C - A by omega) (show D * (C - A) ≤ B * (C - a) + D * (a - A) by omega)
  have q2 := Int.ediv_le_ediv (show 0 < C - A by omega) (show B * (C - a) + D * (a - A) ≤ B * (C - A) by omega)
  rw [Int.mul_ediv_cancel _ (by omega)] at q1 q2
  exact ⟨q1, q2⟩
theorem lvS_cg {w : Nat → Int32} {a a' : Int32} : ∀ k, (∀ y, y < k → (a < 12 * w (67 + 2 * y) ↔ a' < 12 * w (67 + 2 * y))) → lvS w a k = lvS w a' k
  | 0, _ => rfl
  | k + 1, h => by
    have ih := lvS_cg k (fun y hy => h y (by omega))
    have hk := h k (by omega)
    unfold lvS
    rw [ih]
    by_cases c : a < 12 * w (67 + 2 * k)
    · have c' := hk.mp c
      have d : ¬ 12 * w (67 + 2 * k) ≤ a := by rw [i32_le]; rw [i32_lt] at c; omega
      have d' : ¬ 12 * w (67 + 2 * k) ≤ a' := by rw [i32_le]; rw [i32_lt] at c'; omega
      simp only [c, c', d, d', ↓reduceIte]
    · have c' : ¬ a' < 12 * w (67 + 2 * k) := fun z => c (hk.mpr z)
      have d : 12 * w (67 + 2 * k) ≤ a := by rw [i32_le]; rw [i32_lt] at c; omega
      have d' : 12 * w (67 + 2 * k) ≤ a' := by rw [i32_le]; rw [i32_lt] at c'; omega
      simp only [c, c', d, d', ↓reduceIte]
theorem lvS_fall {w : Nat → Int32} (hv : Vld w) {age : Int32} (h0 : 0 ≤ age.toInt) (h1 : age.toInt < 1440) : (lvS w age (cY w)).2.2.2.toInt ≤ (lvS w age (cY w)).2.1.toInt := by
  have inv := lvS_inv hv h0 h1 (cY w) (Nat.le_refl _)
  rcases lvS_lo hv h0 (cY w) (Nat.le_refl _) with ⟨a, b, _⟩ | ⟨j, a, b, c, d, _⟩
  · rw [b]; exact inv.2.2.2.2
  · rcases lvS_hi hv h0 (cY w) (Nat.le_refl _) with ⟨e, f, _⟩ | ⟨j', e, f, g, h, _⟩
    · rw [f]; exact inv.2.2.1.1
    · rw [d, h]
      exact hv.2.2.2.2.2.2.2.2.2.2.2.2.2.2.2 j j' a e (by omega)
theorem lvs_step {w : Nat → Int32} (hv : Vld w) {a : Nat} (ha : a < 1800) : (lvs w (nI (a + 1))).toInt ≤ (lvs w (nI a)).toInt ∧ 0 ≤ (lvs w (nI a)).toInt ∧ (lvs w (nI a)).toInt ≤ 100000 := by
  have e0 : (nI a).toInt = a := nI_toInt (by omega)
  have e1 : (nI (a + 1)).toInt = a + 1 := by rw [nI_toInt (by omega)]; omega
  have x : (1440 : Int32).toInt = 1440 := rfl
  have hY := hv.1.2.2.2
  unfold lvs
  by_cases c : nI a < 1440
  · have c' := c
    rw [i32_lt, e0, x] at c'
    have inv := lvS_inv hv (age := nI a) (by omega) (by omega) (cY w) (Nat.le_refl _)
    have fall := lvS_fall hv (age := nI a) (by omega) (by omega)
    have hi := lvS_hi hv (age := nI a) (by omega) (cY w) (Nat.le_refl _)
    have bd := ip_bd inv.1.2 inv.2.1.1 fall
    have val := lvE_toInt inv.1.1 inv.1.2 inv.2.1.1 inv.2.1.2 inv.2.2.1 inv.2.2.2
    have val' : (lvE (nI a) (lvS w (nI a) (cY w))).toInt = _ := val
    rw [if_pos c, val']
    refine ⟨?_, by omega, by omega⟩
    by_cases d : nI (a + 1) < 1440
    · rw [if_pos d]
      have d' := d
      rw [i32_lt, e1, x] at d'
      have inv1 := lvS_inv hv (age := nI (a + 1)) (by omega) (by omega) (cY w) (Nat.le_refl _)
      have fall1 := lvS_fall hv (age := nI (a + 1)) (by omega) (by omega)
      have bd1 := ip_bd inv1.1.2 inv1.2.1.1 fall1
      have val1 := lvE_toInt inv1.1.1 inv1.1.2 inv1.2.1.1 inv1.2.1.2 inv1.2.2.1 inv1.2.2.2
      have val1' : (lvE (nI (a + 1)) (lvS w (nI (a + 1)) (cY w))).toInt = _ := val1
      by_cases q : (a : Int) + 1 < (lvS w (nI a) (cY w)).2.2.1.toInt
      · have same : lvS w (nI (a + 1)) (cY w) = lvS w (nI a) (cY w) := by
          refine lvS_cg (cY w) (fun y hy => ?_)
          have ey := yr_toInt hv hy
          rw [i32_lt, i32_lt, ey, e0, e1]
          refine ⟨fun z => by omega, fun z => ?_⟩
          rcases hi with ⟨g, _, k⟩ | ⟨j, g, k, l, _, o⟩
          · have := k y hy; omega
          · have := o y hy (by omega)
            have ej := yr_toInt hv g
            rw [l, ej] at q; omega
        rw [val1', same, e0, e1]
        refine Int.ediv_le_ediv (by omega) ?_
        generalize (lvS w (nI a) (cY w)).2.1.toInt = B at *
        generalize (lvS w (nI a) (cY w)).2.2.2.toInt = D at *
        generalize (lvS w (nI a) (cY w)).2.2.1.toInt = C at *
        generalize (lvS w (nI a) (cY w)).1.toInt = A at *
        have s1 : B * (C - ((a : Int) + 1)) = B * (C - a) - B := by rw [show C - ((a : Int) + 1) = (C - a) - 1 by omega, Int.mul_sub, Int.mul_one]
        have s2 : D * ((a : Int) + 1 - A) = D * (a - A) + D := by rw [show (a : Int) + 1 - A = (a - A) + 1 by omega, Int.mul_add, Int.mul_one]
        omega
      · -- the next year begins
        rcases hi with ⟨g, _, k⟩ | ⟨j, g, k, l, o, _⟩
        · rw [g, x] at q; omega
        · have ej := yr_toInt hv g
          rw [l, ej] at q
          rcases lvS_lo hv (age := nI (a + 1)) (by omega) (cY w) (Nat.le_refl _) with ⟨_, _, z⟩ | ⟨j2, z1, z2, z3, z4, z5⟩
          · have := z j g; omega
          · have y5 := z5 j g (by omega)
            have : j2 = j := hv.2.2.2.2.2.2.2.2.2.2.2.2.2.2.1 j2 j z1 g (by omega)
            subst this
            rw [o] at bd
            rw [z4] at bd1
            rw [val1', z4, o]
            exact Int.le_trans bd1.2 bd.1
    · rw [if_neg d, z32]; omega
  · have c2 : ¬ nI (a + 1) < 1440 := by
      rw [i32_lt, x] at c ⊢; omega
    rw [if_neg c, if_neg c2]; decide
theorem lvs_mono {w : Nat → Int32} (hv : Vld w) : ∀ d a, a + d < 1800 → (lvs w (nI (a + d))).toInt ≤ (lvs w (nI a)).toInt
  | 0, a, _ => Int.le_refl _
  | d + 1, a, h => by
    have h1 := lvs_mono hv d a (by omega)
    have h2 := (lvs_step hv (a := a + d) (by omega)).1
    rw [show a + (d + 1) = a + d + 1 by omega]; omega
theorem od_bd {w : Nat → Int32} (hv : Vld w) {b : Int32} {t m : Nat} (hb : 0 ≤ b.toInt) (hbt : b.toInt ≤ t) (htm : t ≤ m) (hm : m < 1800) : 0 ≤ (od w b (nI t) m).toInt ∧ (od w b (nI t) m).toInt ≤ 1000000000 := by
  obtain ⟨b1, b2⟩ := nI_clampI hb
  have e1 : nI t - b = nI (t - b.toNatClampNeg) := by rw [← nI_sub (show b.toNatClampNeg ≤ t by omega), ← b1]
  have e2 : nI m - b = nI (m - b.toNatClampNeg) := by rw [← nI_sub (show b.toNatClampNeg ≤ m by omega), ← b1]
  unfold od
  rw [e1, e2]
  have g1 := lvs_step hv (a := t - b.toNatClampNeg) (by omega)
  have g2 := lvs_step hv (a := m - b.toNatClampNeg) (by omega)
  have g3 := lvs_mono hv (m - t) (t - b.toNatClampNeg) (by omega)
  rw [show t - b.toNatClampNeg + (m - t) = m - b.toNatClampNeg by omega] at g3
  by_cases c : lvs w (nI (t - b.toNatClampNeg)) = 0
  · rw [if_pos c]; decide
  · rw [if_neg c]
    have hp := nz_pos g1.2.1 c
    have x : (1000000000 : Int64).toInt = 1000000000 := rfl
    have e3 : ((1000000000 : Int64) * (lvs w (nI (m - b.toNatClampNeg))).toInt64).toInt = 1000000000 * (lvs w (nI (m - b.toNatClampNeg))).toInt := by rw [i64_mul (by rw [i64_of, x]; omega) (by rw [i64_of, x]; omega), i64_of, x]
    rw [i64_div (by rw [e3]; omega) (by rw [i64_of]; exact hp), e3, i64_of]
    have d0 : 0 ≤ 1000000000 * (lvs w (nI (m - b.toNatClampNeg))).toInt / (lvs w (nI (t - b.toNatClampNeg))).toInt := Int.ediv_nonneg (by omega) (by omega)
    have d1 := Int.ediv_le_ediv hp (show 1000000000 * (lvs w (nI (m - b.toNatClampNeg))).toInt ≤ 1000000000 * (lvs w (nI (t - b.toNatClampNeg))).toInt by omega)
    rw [Int.mul_ediv_cancel _ (by omega)] at d1
    exact ⟨d0, d1⟩
theorem od_64 {w : Nat → Int32} (hv : Vld w) {b : Int32} {t m : Nat} (hb : 0 ≤ b.toInt) (hbt : b.toInt ≤ t) (htm : t ≤ m) (hm : m < 1800) : (od w b (nI t) m).toInt32.toInt64 = od w b (nI t) m := by
  have := od_bd hv hb hbt htm hm
  exact i64_back (by omega) (by omega)
