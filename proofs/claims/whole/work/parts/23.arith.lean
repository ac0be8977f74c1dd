/-! ===== machine numbers as integers ===== -/
theorem i32_le {a b : Int32} : a ≤ b ↔ a.toInt ≤ b.toInt := Int32.le_iff_toInt_le
theorem i32_lt {a b : Int32} : a < b ↔ a.toInt < b.toInt := Int32.lt_iff_toInt_lt
theorem i32_eq {a b : Int32} : a = b ↔ a.toInt = b.toInt := Int32.toInt_inj.symm
theorem i64_le {a b : Int64} : a ≤ b ↔ a.toInt ≤ b.toInt := Int64.le_iff_toInt_le
theorem i64_lt {a b : Int64} : a < b ↔ a.toInt < b.toInt := Int64.lt_iff_toInt_lt
theorem i64_eq {a b : Int64} : a = b ↔ a.toInt = b.toInt := Int64.toInt_inj.symm
theorem i32_add {x y : Int32} (h : -2147483648 ≤ x.toInt + y.toInt) (h2 : x.toInt + y.toInt ≤ 2147483647) : (x + y).toInt = x.toInt + y.toInt := by
  rw [Int32.toInt_add, Int.bmod_eq_of_le (by omega) (by omega)]
theorem i32_sub {x y : Int32} (h : -2147483648 ≤ x.toInt - y.toInt) (h2 : x.toInt - y.toInt ≤ 2147483647) : (x - y).toInt = x.toInt - y.toInt := by
  rw [Int32.toInt_sub, Int.bmod_eq_of_le (by omega) (by omega)]
theorem i32_mul {x y : Int32} (h : -2147483648 ≤ x.toInt * y.toInt) (h2 : x.toInt * y.toInt ≤ 2147483647) : (x * y).toInt = x.toInt * y.toInt := by
  rw [Int32.toInt_mul, Int.bmod_eq_of_le (by omega) (by omega)]
theorem i64_add {x y : Int64} (h : -9223372036854775808 ≤ x.toInt + y.toInt) (h2 : x.toInt + y.toInt ≤ 9223372036854775807) : (x + y).toInt = x.toInt + y.toInt := by
  rw [Int64.toInt_add, Int.bmod_eq_of_le (by omega) (by omega)]
theorem i64_sub {x y : Int64} (h : -9223372036854775808 ≤ x.toInt - y.toInt) (h2 : x.toInt - y.toInt ≤ 9223372036854775807) : (x - y).toInt = x.toInt - y.toInt := by
  rw [Int64.toInt_sub, Int.bmod_eq_of_le (by omega) (by omega)]
theorem i64_mul {x y : Int64} (h : -9223372036854775808 ≤ x.toInt * y.toInt) (h2 : x.toInt * y.toInt ≤ 9223372036854775807) : (x * y).toInt = x.toInt * y.toInt := by
  rw [Int64.toInt_mul, Int.bmod_eq_of_le (by omega) (by omega)]
theorem i64_div {x y : Int64} (h : 0 ≤ x.toInt) (h2 : 0 < y.toInt) : (x / y).toInt = x.toInt / y.toInt := by
  have hx := x.toInt_lt
  have h3 : x.toInt.tdiv y.toInt = x.toInt / y.toInt := Int.tdiv_eq_ediv_of_nonneg h
  have h4 : 0 ≤ x.toInt / y.toInt := Int.ediv_nonneg h (by omega)
  have h5 : x.toInt / y.toInt ≤ x.toInt := Int.ediv_le_self _ h
  rw [Int64.toInt_div, h3, Int.bmod_eq_of_le (by omega) (by omega)]
theorem i32_div {x y : Int32} (h : 0 ≤ x.toInt) (h2 : 0 < y.toInt) : (x / y).toInt = x.toInt / y.toInt := by
  have hx := x.toInt_lt
  have h3 : x.toInt.tdiv y.toInt = x.toInt / y.toInt := Int.tdiv_eq_ediv_of_nonneg h
  have h4 : 0 ≤ x.toInt / y.toInt := Int.ediv_nonneg h (by omega)
  have h5 : x.toInt / y.toInt ≤ x.toInt := Int.ediv_le_self _ h
  rw [Int32.toInt_div, h3, Int.bmod_eq_of_le (by omega) (by omega)]
theorem i64_of (x : Int32) : x.toInt64.toInt = x.toInt := Int32.toInt_toInt64 x
theorem i32_of {x : Int64} (h : -2147483648 ≤ x.toInt) (h2 : x.toInt ≤ 2147483647) : x.toInt32.toInt = x.toInt := by
  rw [Int64.toInt_toInt32, Int.bmod_eq_of_le (by omega) (by omega)]
theorem i64_back {x : Int64} (h : -2147483648 ≤ x.toInt) (h2 : x.toInt ≤ 2147483647) : x.toInt32.toInt64 = x := by
  rw [i64_eq, i64_of, i32_of h h2]
theorem i32_lo (x : Int32) : -2147483648 ≤ x.toInt := x.le_toInt
theorem i32_hi (x : Int32) : x.toInt ≤ 2147483647 := by have := x.toInt_lt; omega
theorem i64_lo (x : Int64) : -9223372036854775808 ≤ x.toInt := x.le_toInt
theorem i64_hi (x : Int64) : x.toInt ≤ 9223372036854775807 := by have := x.toInt_lt; omega
theorem m1 : (-1 : Int32).toInt = -1 := rfl
theorem ne_m1 {x : Int32} (h : 0 ≤ x.toInt) : ¬ x = -1 := by intro q; rw [q, m1] at h; omega
theorem nI_of_toInt {x : Int32} (h : 0 ≤ x.toInt) : x = nI x.toInt.toNat := by
  have h2 := i32_hi x
  rw [i32_eq, nI_toInt (by omega)]; omega
theorem lg_le {x y : Int64} : lg_cmp x y ≤ 0 ↔ x ≤ y := by
  unfold lg_cmp
  by_cases h1 : y < x
  · rw [if_pos h1, i64_le]; rw [i64_lt] at h1
    constructor
    · intro q; exact absurd q (by decide)
    · intro q; omega
  · rw [if_neg h1]; rw [i64_lt] at h1
    rw [i64_le]
    constructor
    · intro _; omega
    · intro _; split <;> decide
theorem lg_0 {x y : Int64} : lg_cmp x y = 0 ↔ x = y := by
  unfold lg_cmp
  by_cases h1 : y < x
  · rw [if_pos h1, i64_eq]; rw [i64_lt] at h1
    constructor
    · intro q; exact absurd q (by decide)
    · intro q; omega
  · rw [if_neg h1]
    by_cases h2 : x = y
    · rw [if_pos h2]; simp [h2]
    · rw [if_neg h2]
      constructor
      · intro q; exact absurd q (by decide)
      · intro q; exact absurd q h2
/-! ===== months of service ===== -/
def svZ (x y a b : Int) : Int := if (if b ≤ y then b else y) ≤ (if x ≤ a then a else x) then 0 else (if b ≤ y then b else y) - (if x ≤ a then a else x)
theorem svT_toInt {x y a b : Int32} (hx : 0 ≤ x.toInt) (hy : 0 ≤ y.toInt) (ha : 0 ≤ a.toInt) (hb : 0 ≤ b.toInt) : (svT x y a b).toInt = svZ x.toInt y.toInt a.toInt b.toInt := by
  have h1 := i32_hi x; have h2 := i32_hi y; have h3 := i32_hi a; have h4 := i32_hi b
  unfold svT svZ
  by_cases c1 : b ≤ y <;> by_cases c2 : x ≤ a
  all_goals (have c1' := c1; have c2' := c2; rw [i32_le] at c1' c2'; simp only [c1, c2, c1', c2', ↓reduceIte])
  · by_cases c3 : b ≤ a
    · have c3' := c3; rw [i32_le] at c3'; simp only [c3, c3', ↓reduceIte]; rfl
    · have c3' := c3; rw [i32_le] at c3'; simp only [c3, c3', ↓reduceIte]; exact i32_sub (by omega) (by omega)
  · by_cases c3 : b ≤ x
    · have c3' := c3; rw [i32_le] at c3'; simp only [c3, c3', ↓reduceIte]; rfl
    · have c3' := c3; rw [i32_le] at c3'; simp only [c3, c3', ↓reduceIte]; exact i32_sub (by omega) (by omega)
  · by_cases c3 : y ≤ a
    · have c3' := c3; rw [i32_le] at c3'; simp only [c3, c3', ↓reduceIte]; rfl
    · have c3' := c3; rw [i32_le] at c3'; simp only [c3, c3', ↓reduceIte]; exact i32_sub (by omega) (by omega)
  · by_cases c3 : y ≤ x
    · have c3' := c3; rw [i32_le] at c3'; simp only [c3, c3', ↓reduceIte]; rfl
    · have c3' := c3; rw [i32_le] at c3'; simp only [c3, c3', ↓reduceIte]; exact i32_sub (by omega) (by omega)
theorem svZ_nn (x y a b : Int) : 0 ≤ svZ x y a b := by
  unfold svZ; split <;> split <;> split <;> omega
theorem svZ_le {x y a b : Int} (h : x ≤ y) : svZ x y a b ≤ y - x := by
  unfold svZ; split <;> split <;> split <;> omega
theorem svZ_mono {x y a b : Int} (hx : 0 ≤ x) (hy : y ≤ 1800) (ha : 0 ≤ a) (hb : b ≤ 1800) : svZ x y a b ≤ svZ x y 0 1800 := by
  unfold svZ; repeat' split
  all_goals omega
/-- the end of the span ahead -/
def toE (w : Nat → Int32) (k : Nat) : Int := match k with
  | 0 => 0
  | k + 1 => (w (12 + 3 * k)).toInt
theorem svN_toInt {w : Nat → Int32} (hv : Vld w) {a b : Int32} (ha : 0 ≤ a.toInt) (hb : 0 ≤ b.toInt) : ∀ k, k ≤ cS w → 0 ≤ (svN w a b k).toInt ∧ (svN w a b k).toInt ≤ toE w k ∧ toE w k ≤ 1799
  | 0, _ => by show (0 : Int) ≤ 0 ∧ (0 : Int) ≤ 0 ∧ (0 : Int) ≤ 1799; decide
  | k + 1, hk => by
    obtain ⟨h1, h2, h3⟩ := svN_toInt hv ha hb k (by omega)
    obtain ⟨s1, s2, s3, s4, s5⟩ := hv.2.2.2.2.2.2.2.2.2.1 k (by omega)
    have hb0 := hv.2.1.1
    have hT : toE w k ≤ (w (11 + 3 * k)).toInt := by
      cases k with
      | zero => show (0 : Int) ≤ (w (11 + 3 * 0)).toInt; omega
      | succ k => exact hv.2.2.2.2.2.2.2.2.2.2.1 k (by omega)
    have ht := svT_toInt (x := w (11 + 3 * k)) (y := w (12 + 3 * k)) (by omega) (by omega) ha hb
    have hn := svZ_nn (w (11 + 3 * k)).toInt (w (12 + 3 * k)).toInt a.toInt b.toInt
    have hl := svZ_le (x := (w (11 + 3 * k)).toInt) (y := (w (12 + 3 * k)).toInt) (a := a.toInt) (b := b.toInt) (by omega)
    show 0 ≤ (svN w a b k + svT (w (11 + 3 * k)) (w (12 + 3 * k)) a b).toInt ∧ (svN w a b k + svT (w (11 + 3 * k)) (w (12 + 3 * k)) a b).toInt ≤ (w (12 + 3 * k)).toInt ∧ (w (12 + 3 * k)).toInt ≤ 1799
    rw [i32_add (by omega) (by omega)]
    omega
theorem svc_toInt {w : Nat → Int32} (hv : Vld w) {a b : Int32} (ha : 0 ≤ a.toInt) (hb : 0 ≤ b.toInt) : 0 ≤ (svc w a b).toInt ∧ (svc w a b).toInt ≤ 1799 := by
  obtain ⟨h1, h2, h3⟩ := svN_toInt hv ha hb (cS w) (Nat.le_refl _)
  unfold svc; omega
theorem svN_mono {w : Nat → Int32} (hv : Vld w) {a b : Int32} (ha : 0 ≤ a.toInt) (hb : 0 ≤ b.toInt) (hb2 : b.toInt ≤ 1800) : ∀ k, k ≤ cS w → (svN w a b k).toInt ≤ (svN w 0 1800 k).toInt
  | 0, _ => by unfold svN; exact Int.le_refl _
  | k + 1, hk => by
    have ih := svN_mono hv ha hb hb2 k (by omega)
    obtain ⟨s1, s2, s3, s4, s5⟩ := hv.2.2.2.2.2.2.2.2.2.1 k (by omega)
    have hb0 := hv.2.1.1
    obtain ⟨h1, h2, h3⟩ := svN_toInt hv ha hb k (by omega)
    obtain ⟨g1, g2, g3⟩ := svN_toInt hv (a := 0) (b := 1800) (by decide) (by decide) k (by omega)
    have ht := svT_toInt (x := w (11 + 3 * k)) (y := w (12 + 3 * k)) (by omega) (by omega) ha hb
    have ht2 := svT_toInt (x := w (11 + 3 * k)) (y := w (12 + 3 * k)) (a := 0) (b := 1800) (by omega) (by omega) (by decide) (by decide)
    have hl := svZ_le (x := (w (11 + 3 * k)).toInt) (y := (w (12 + 3 * k)).toInt) (a := a.toInt) (b := b.toInt) (by omega)
    have hl2 := svZ_le (x := (w (11 + 3 * k)).toInt) (y := (w (12 + 3 * k)).toInt) (a := 0) (b := 1800) (by omega)
    have hn := svZ_nn (w (11 + 3 * k)).toInt (w (12 + 3 * k)).toInt a.toInt b.toInt
    have hn2 := svZ_nn (w (11 + 3 * k)).toInt (w (12 + 3 * k)).toInt 0 1800
    have hm := svZ_mono (x := (w (11 + 3 * k)).toInt) (y := (w (12 + 3 * k)).toInt) (by omega) (by omega) ha hb2
    rw [show (0 : Int32).toInt = 0 from rfl, show (1800 : Int32).toInt = 1800 from rfl] at ht2
    show (svN w a b k + svT (w (11 + 3 * k)) (w (12 + 3 * k)) a b).toInt ≤ (svN w 0 1800 k + svT (w (11 + 3 * k)) (w (12 + 3 * k)) 0 1800).toInt
    rw [i32_add (by omega) (by omega), i32_add (by omega) (by omega)]
    omega
/-- all months of service -/
def nS (w : Nat → Int32) : Int32 := svc w 0 1800
theorem nS_toInt {w : Nat → Int32} (hv : Vld w) : 0 ≤ (nS w).toInt ∧ (nS w).toInt ≤ 1799 := svc_toInt hv (by decide) (by decide)
theorem wed_toInt {w : Nat → Int32} (hv : Vld w) {k : Nat} (hk : k < cP w) : 0 ≤ (wed w k).toInt ∧ (wed w k).toInt ≤ (nS w).toInt := by
  have hN := nS_toInt hv
  obtain ⟨-, ⟨a1, a2⟩, a3, -⟩ := hv.2.2.2.2.2.2.2.2.2.2.2.1 k hk
  unfold wed
  split
  · exact ⟨by decide, hN.1⟩
  · rename_i h
    rcases a3 with ⟨a3, -⟩ | ⟨a3, a4⟩
    · exact absurd a3 h
    · exact ⟨(svc_toInt hv a1 (by omega)).1, svN_mono hv a1 (by omega) (by omega) _ (Nat.le_refl _)⟩
theorem nS_64 {w : Nat → Int32} (hv : Vld w) (h : ¬ nS w = 0) : ¬ (1000 : Int64) * (nS w).toInt64 = 0 := by
  have hN := nS_toInt hv
  rw [i32_eq] at h
  rw [i64_eq, i64_mul (by rw [i64_of, show (1000 : Int64).toInt = 1000 from rfl]; omega) (by rw [i64_of, show (1000 : Int64).toInt = 1000 from rfl]; omega), i64_of, show (1000 : Int64).toInt = 1000 from rfl, show (0 : Int64).toInt = 0 from rfl]
  rw [show (0 : Int32).toInt = 0 from rfl] at h
  omega
