/-! ===== bounds: shares, annuities, own ===== -/
theorem smA_s (F : Nat → Int64) (s n : Nat) : smA F s (n + 1) = smA F s n + F (s + n) := rfl
theorem smA_bd {F : Nat → Int64} {s : Nat} {B : Int} (hB : 0 ≤ B) : ∀ n : Nat, (n : Int) * B ≤ 9000000000000000000 → (∀ m, s ≤ m → m < s + n → 0 ≤ (F m).toInt ∧ (F m).toInt ≤ B) → 0 ≤ (smA F s n).toInt ∧ (smA F s n).toInt ≤ n * B
  | 0, _, _ => by
    show 0 ≤ (0 : Int64).toInt ∧ (0 : Int64).toInt ≤ ((0 : Nat) : Int) * B
    rw [show ((0 : Nat) : Int) = 0 from rfl, Int.zero_mul]; decide
  | n + 1, hn, hF => by
    have e : ((n + 1 : Nat) : Int) * B = n * B + B := by rw [Int.natCast_succ, Int.add_mul, Int.one_mul]
    rw [e] at hn ⊢
    obtain ⟨a, b⟩ := smA_bd hB n (by omega) (fun m h1 h2 => hF m h1 (by omega))
    obtain ⟨c, d⟩ := hF (s + n) (by omega) (by omega)
    rw [smA_s, i64_add (by omega) (by omega)]; omega
theorem mul_le' {a b c d : Int} (h1 : a ≤ c) (h2 : b ≤ d) (h3 : 0 ≤ b) (h4 : 0 ≤ c) : a * b ≤ c * d := Int.mul_le_mul h1 h2 h3 h4
theorem b64 : (1000000000 : Int64).toInt = 1000000000 := rfl
/-- a part of a number: x of a thousand million -/
theorem prt_bd {x y : Int64} {A : Int} (hA : A ≤ 9000000000) (hx : 0 ≤ x.toInt ∧ x.toInt ≤ A) (hy : 0 ≤ y.toInt ∧ y.toInt ≤ 1000000000) : (x * y / 1000000000).toInt = x.toInt * y.toInt / 1000000000 ∧ 0 ≤ x.toInt * y.toInt / 1000000000 ∧ x.toInt * y.toInt / 1000000000 ≤ x.toInt ∧ (x * y).toInt = x.toInt * y.toInt := by
  have m0 : 0 ≤ x.toInt * y.toInt := Int.mul_nonneg hx.1 hy.1
  have m1 : x.toInt * y.toInt ≤ x.toInt * 1000000000 := Int.mul_le_mul_of_nonneg_left hy.2 hx.1
  have e1 : (x * y).toInt = x.toInt * y.toInt := i64_mul (by omega) (by omega)
  have e2 : (x * y / 1000000000).toInt = x.toInt * y.toInt / 1000000000 := by rw [i64_div (by omega) (by rw [b64]; decide), e1, b64]
  refine ⟨e2, by omega, by omega, e1⟩
theorem shr_toInt {w : Nat → Int32} (hv : Vld w) {k m : Nat} (hk : k < cP w) (hm : m < 1800) : (shr w k m).toInt = (if nS w = 0 then 0 else (whl w m).toInt * (w (38 + 8 * k)).toInt * (wed w k).toInt / (1000 * (nS w).toInt)) ∧ 0 ≤ (shr w k m).toInt ∧ (shr w k m).toInt ≤ (whl w m).toInt := by
  have h1 := whl_bd hv hm
  have h2 := (hv.sp hk).2.2.2.1
  have h3 := wed_toInt hv hk
  have h4 := nS_toInt hv
  unfold shr
  by_cases c : nS w = 0
  · rw [if_pos c, if_pos c]; exact ⟨rfl, by decide, by show (0 : Int) ≤ _; omega⟩
  · rw [if_neg c, if_neg c]
    have hp := nz_pos h4.1 c
    have m0 : 0 ≤ (whl w m).toInt * (w (38 + 8 * k)).toInt := Int.mul_nonneg h1.1 h2.1
    have m1 : (whl w m).toInt * (w (38 + 8 * k)).toInt ≤ (whl w m).toInt * 1000 := Int.mul_le_mul_of_nonneg_left h2.2 h1.1
    have n0 : 0 ≤ (whl w m).toInt * (w (38 + 8 * k)).toInt * (wed w k).toInt := Int.mul_nonneg m0 h3.1
    have n1 : (whl w m).toInt * (w (38 + 8 * k)).toInt * (wed w k).toInt ≤ (whl w m).toInt * 1000 * (nS w).toInt := mul_le' m1 h3.2 h3.1 (by omega)
    have n2 : (whl w m).toInt * 1000 * (nS w).toInt ≤ 600000000 * 1000 * 1799 := mul_le' (by omega) h4.2 h4.1 (by decide)
    have e1 : (whl w m * (w (38 + 8 * k)).toInt64).toInt = (whl w m).toInt * (w (38 + 8 * k)).toInt := by rw [i64_mul (by rw [i64_of]; omega) (by rw [i64_of]; omega), i64_of]
    have e2 : (whl w m * (w (38 + 8 * k)).toInt64 * (wed w k).toInt64).toInt = (whl w m).toInt * (w (38 + 8 * k)).toInt * (wed w k).toInt := by rw [i64_mul (by rw [e1, i64_of]; omega) (by rw [e1, i64_of]; omega), e1, i64_of]
    have x : (1000 : Int64).toInt = 1000 := rfl
    have e3 : ((1000 : Int64) * (nS w).toInt64).toInt = 1000 * (nS w).toInt := by rw [i64_mul (by rw [i64_of, x]; omega) (by rw [i64_of, x]; omega), i64_of, x]
    have e4 : (whl w m * (w (38 + 8 * k)).toInt64 * (wed w k).toInt64 / (1000 * (nS w).toInt64)).toInt = (whl w m).toInt * (w (38 + 8 * k)).toInt * (wed w k).toInt / (1000 * (nS w).toInt) := by rw [i64_div (by omega) (by omega), e2, e3]
    rw [e4]
    refine ⟨rfl, Int.ediv_nonneg n0 (by omega), ?_⟩
    have q := Int.ediv_le_ediv (show 0 < 1000 * (nS w).toInt by omega) n1
    rw [Int.mul_assoc (whl w m).toInt 1000, Int.mul_ediv_cancel _ (show 1000 * (nS w).toInt ≠ 0 by omega)] at q; exact q
theorem ann_bd {w : Nat → Int32} (hv : Vld w) {b : Int32} {t s : Nat} (hb : 0 ≤ b.toInt) (hbt : b.toInt ≤ t) (hts : t ≤ s) (hs : s ≤ 1800) : 0 ≤ (ann w b t s).toInt ∧ (ann w b t s).toInt ≤ (1800 - s : Nat) * 1000000000 := by
  unfold ann
  refine smA_bd (B := 1000000000) (by decide) _ (by omega) (fun m h1 h2 => ?_)
  have hd := dsc_bd hv (m - t)
  have ho := od_bd hv hb hbt (show t ≤ m by omega) (show m < 1800 by omega)
  obtain ⟨p1, p2, p3, _⟩ := prt_bd (by decide : (1000000000 : Int) ≤ 9000000000) hd ho
  rw [p1]; omega
theorem svc_r {w : Nat → Int32} (hv : Vld w) (h1 : ¬ w 1 = -1) : (nS w).toInt ≤ rT w := by
  obtain ⟨r1, r2, r3, r4⟩ := hv.r h1
  obtain ⟨a, b, c⟩ := svN_toInt hv (a := 0) (b := 1800) (by decide) (by decide) (cS w) (Nat.le_refl _)
  have e : (nS w).toInt = (svN w 0 1800 (cS w)).toInt := rfl
  have hE : toE w (cS w) ≤ (rT w : Int) := by
    have h8 := hv.1.1.2
    cases hc : cS w with
    | zero => show (0 : Int) ≤ _; omega
    | succ k =>
      show (w (12 + 3 * k)).toInt ≤ _
      rcases hv.2.2.1 with z | ⟨_, _, z⟩
      · exact absurd z h1
      · have := z k (by omega); omega
  omega
theorem first_r {w : Nat → Int32} (hv : Vld w) (h1 : ¬ w 1 = -1) : (first w).toInt ≤ 3334 * (nS w).toInt := by
  have hf := fpay_bd hv
  have h6 := hv.2.2.2.2.1
  have hn := nS_toInt hv
  have a0 : 0 ≤ (fpay w).toInt * (w 6).toInt := Int.mul_nonneg hf.1 h6.1
  have a1 : (fpay w).toInt * (w 6).toInt ≤ 1000000 * 400 := Int.mul_le_mul hf.2 h6.2 h6.1 (by decide)
  have b0 : 0 ≤ (fpay w).toInt * (w 6).toInt * (nS w).toInt := Int.mul_nonneg a0 hn.1
  have b1 : (fpay w).toInt * (w 6).toInt * (nS w).toInt ≤ 1000000 * 400 * (nS w).toInt := Int.mul_le_mul_of_nonneg_right a1 hn.1
  have en : (svc w 0 1800).toInt = (nS w).toInt := rfl
  have e1 : ((fpay w).toInt64 * (w 6).toInt64).toInt = (fpay w).toInt * (w 6).toInt := by rw [i64_mul (by rw [i64_of, i64_of]; omega) (by rw [i64_of, i64_of]; omega), i64_of, i64_of]
  have e2 : ((fpay w).toInt64 * (w 6).toInt64 * (svc w 0 1800).toInt64).toInt = (fpay w).toInt * (w 6).toInt * (nS w).toInt := by rw [i64_mul (by rw [e1, i64_of, en]; omega) (by rw [e1, i64_of, en]; omega), e1, i64_of, en]
  have x : (120000 : Int64).toInt = 120000 := rfl
  have e3 : ((fpay w).toInt64 * (w 6).toInt64 * (svc w 0 1800).toInt64 / 120000).toInt = (fpay w).toInt * (w 6).toInt * (nS w).toInt / 120000 := by rw [i64_div (by omega) (by rw [x]; decide), e2, x]
  have eb : (basev w).toInt = (fpay w).toInt * (w 6).toInt * (nS w).toInt / 120000 := by
    unfold basev
    rw [i32_of (by omega) (by omega), e3]
  unfold first
  rw [if_neg h1]
  by_cases d : partv w ≤ 0
  · rw [if_pos d, z32]; omega
  rw [if_neg d]
  rw [i32_le, z32] at d
  have hb := base_bd hv
  have hp := part_bd hv h1
  have m0 : 0 ≤ (basev w).toInt * (partv w).toInt := Int.mul_nonneg hb.1 (by omega)
  have m1 : (basev w).toInt * (partv w).toInt ≤ (basev w).toInt * 1000 := Int.mul_le_mul_of_nonneg_left hp hb.1
  have f1 : ((basev w).toInt64 * (partv w).toInt64).toInt = (basev w).toInt * (partv w).toInt := by rw [i64_mul (by rw [i64_of, i64_of]; omega) (by rw [i64_of, i64_of]; omega), i64_of, i64_of]
  have x2 : (1000 : Int64).toInt = 1000 := rfl
  have f3 : ((basev w).toInt64 * (partv w).toInt64 / 1000).toInt = (basev w).toInt * (partv w).toInt / 1000 := by rw [i64_div (by omega) (by rw [x2]; decide), f1, x2]
  rw [i32_of (by omega) (by omega), f3]
  omega
theorem ownB_toInt {sh me sp : Int64} (h0 : 0 ≤ sh.toInt) (h1 : 0 ≤ me.toInt) (h2 : sh.toInt * me.toInt ≤ 9000000000000000000) (h3 : 0 ≤ sp.toInt) : (ownB sh me sp).toInt = (if sp.toInt = 0 then 0 else if sh.toInt * me.toInt / 1000000000 * 1000000000 / sp.toInt ≤ 1000000000 then sh.toInt * me.toInt / 1000000000 * 1000000000 / sp.toInt else 1000000000) := by
  have m0 : 0 ≤ sh.toInt * me.toInt := Int.mul_nonneg h0 h1
  have e1 : (sh * me).toInt = sh.toInt * me.toInt := i64_mul (by omega) (by omega)
  have e2 : (sh * me / 1000000000).toInt = sh.toInt * me.toInt / 1000000000 := by rw [i64_div (by omega) (by rw [b64]; decide), e1, b64]
  have e3 : (sh * me / 1000000000 * 1000000000).toInt = sh.toInt * me.toInt / 1000000000 * 1000000000 := by rw [i64_mul (by rw [e2, b64]; omega) (by rw [e2, b64]; omega), e2, b64]
  unfold ownB
  by_cases c : sp = 0
  · rw [if_pos c, if_pos (by rw [c]; rfl)]; rfl
  · have c' : ¬ sp.toInt = 0 := fun z => c (by rw [i64_eq, z]; rfl)
    rw [if_neg c, if_neg c']
    have e4 : (sh * me / 1000000000 * 1000000000 / sp).toInt = sh.toInt * me.toInt / 1000000000 * 1000000000 / sp.toInt := by rw [i64_div (by omega) (by omega), e3]
    by_cases d : sh * me / 1000000000 * 1000000000 / sp ≤ 1000000000
    · rw [if_pos d, if_pos (by rw [i64_le, e4, b64] at d; exact d), e4]
    · rw [if_neg d, if_neg (by rw [i64_le, e4, b64] at d; exact d)]; rfl
/-- a share's first month times the member's annuity stays a long -/
theorem shm_bd {w : Nat → Int32} (hv : Vld w) (h1 : ¬ w 1 = -1) {k : Nat} (hk : k < cP w) : 0 ≤ (shr w k (rT w)).toInt ∧ 0 ≤ (ann w (w 0) (rT w) (rT w)).toInt ∧ (shr w k (rT w)).toInt * (ann w (w 0) (rT w) (rT w)).toInt ≤ 9000000000000000000 := by
  obtain ⟨r1, r2, r3, r4⟩ := hv.r h1
  obtain ⟨-, s0, s1⟩ := shr_toInt hv hk r2
  have e : (whl w (rT w)).toInt = (first w).toInt := by rw [whl_r hv h1, i64_of]
  have f := first_r hv h1
  have g := svc_r hv h1
  have n := nS_toInt hv
  obtain ⟨a0, a1⟩ := ann_bd hv hv.2.1.1 (show (w 0).toInt ≤ (rT w : Nat) by omega) (Nat.le_refl _) (show rT w ≤ 1800 by omega)
  refine ⟨s0, a0, ?_⟩
  have p1 : (shr w k (rT w)).toInt * (ann w (w 0) (rT w) (rT w)).toInt ≤ (3334 * (rT w : Int)) * ((1800 - rT w : Nat) * 1000000000) := mul_le' (by omega) a1 a0 (by omega)
  have p2 : (3334 * (rT w : Int)) * ((1800 - rT w : Nat) * 1000000000) = 3334000000000 * ((rT w : Int) * (1800 - rT w : Nat)) := by
    rw [Int.mul_assoc, ← Int.mul_assoc (rT w : Int), Int.mul_comm _ (1000000000 : Int), ← Int.mul_assoc]; rfl
  have p3 : (rT w : Int) * (1800 - rT w : Nat) ≤ 1620000 := by
    rcases Nat.lt_or_ge (rT w) 900 with z | z
    · have : (rT w : Int) * (1800 - rT w : Nat) ≤ 900 * 1800 := mul_le' (by omega) (by omega) (by omega) (by decide)
      omega
    · have : (rT w : Int) * (1800 - rT w : Nat) ≤ 1800 * 900 := mul_le' (by omega) (by omega) (by omega) (by decide)
      omega
  omega
theorem own_bd {w : Nat → Int32} (hv : Vld w) {k : Nat} (hk : k < cP w) : 0 ≤ (own w k).toInt ∧ (own w k).toInt ≤ 1000000000 := by
  unfold own
  by_cases c1 : w 1 = -1
  · rw [if_pos c1]; decide
  rw [if_neg c1]
  by_cases c2 : w (37 + 8 * k) = -1
  · rw [if_pos c2]; decide
  rw [if_neg c2]
  by_cases c3 : w 1 < w 0
  · rw [if_pos c3]; decide
  rw [if_neg c3]
  by_cases c4 : w 1 < w (35 + 8 * k)
  · rw [if_pos c4]; decide
  rw [if_neg c4]
  obtain ⟨r1, r2, r3, r4⟩ := hv.r c1
  obtain ⟨b1, b2, b3⟩ := hv.b c1 hk
  obtain ⟨s0, a0, sa⟩ := shm_bd hv c1 hk
  rw [i32_lt] at c4
  obtain ⟨p0, p1⟩ := ann_bd hv (hv.sp hk).1.1 (show (w (35 + 8 * k)).toInt ≤ (rT w : Nat) by omega) b3 (show bT w k ≤ 1800 by omega)
  rw [ownB_toInt s0 a0 sa p0]
  have m0 : 0 ≤ (shr w k (rT w)).toInt * (ann w (w 0) (rT w) (rT w)).toInt := Int.mul_nonneg s0 a0
  split
  · omega
  · split
    · refine ⟨Int.ediv_nonneg (by omega) p0, by assumption⟩
    · omega
