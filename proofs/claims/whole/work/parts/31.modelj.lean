/-! ===== the reference: share by its common divisor, what happens ===== -/
def edL : Nat → Int32 → Int32 → Int32
  | 0, a, _ => a
  | n + 1, a, b => if b = 0 then a else edL n b (a - a / b * b)
theorem z32 : (0 : Int32).toInt = 0 := rfl
theorem o32 : (1 : Int32).toInt = 1 := rfl
theorem i32_rem {a b : Int32} (ha : 0 ≤ a.toInt) (hb : 0 < b.toInt) : (a - a / b * b).toInt = a.toInt % b.toInt := by
  have h1 := i32_div ha hb
  have h2 : (a / b * b).toInt = a.toInt / b.toInt * b.toInt := by
    have h0 : 0 ≤ a.toInt / b.toInt := Int.ediv_nonneg ha (by omega)
    have h3 : 0 ≤ a.toInt / b.toInt * b.toInt := Int.mul_nonneg h0 (by omega)
    have h4 : a.toInt / b.toInt * b.toInt ≤ a.toInt := Int.ediv_mul_le _ (by omega)
    have h5 := i32_hi a
    rw [i32_mul (by rw [h1]; omega) (by rw [h1]; omega), h1]
  have h3 : 0 ≤ a.toInt / b.toInt * b.toInt := Int.mul_nonneg (Int.ediv_nonneg ha (by omega)) (by omega)
  have h4 : a.toInt / b.toInt * b.toInt ≤ a.toInt := Int.ediv_mul_le _ (by omega)
  have h5 := i32_hi a
  rw [i32_sub (by rw [h2]; omega) (by rw [h2]; omega), h2, Int.emod_def, Int.mul_comm]
theorem nz_pos {b : Int32} (h : 0 ≤ b.toInt) (h2 : ¬ b = 0) : 0 < b.toInt := by
  rw [i32_eq, z32] at h2; omega
theorem edL_0 (n : Nat) (a : Int32) : edL n a 0 = a := by
  cases n with
  | zero => rfl
  | succ n => unfold edL; rw [if_pos rfl]
theorem halves {b r : Int} (h0 : 0 < r) (h : r < b) : 2 * (b % r) < b := by
  have h1 : b % r < r := Int.emod_lt_of_pos _ h0
  have h2 := Int.emod_add_mul_ediv b r
  have h3 : 1 ≤ b / r := by
    have := Int.ediv_le_ediv h0 (Int.le_of_lt h)
    rw [Int.ediv_self (by omega)] at this; exact this
  have h4 : r * 1 ≤ r * (b / r) := Int.mul_le_mul_of_nonneg_left h3 (by omega)
  omega
theorem m_div_loop : ∀ (n N : Nat) (a b : Int32), 0 ≤ a.toInt → 0 ≤ b.toInt → b.toInt < (2 ^ n : Nat) → 2 * n < N → fX10_divisor_4 N a b = some (edL (2 * n) a b) ∧ ((0 < a.toInt ∨ 0 < b.toInt) → 0 < (edL (2 * n) a b).toInt)
  | n, 0, _, _, _, _, _, h => by omega
  | 0, N + 1, a, b, ha, hb, h1, _ => by
    have hb0 : b = 0 := by
      rw [i32_eq, z32]
      have : ((2 ^ 0 : Nat) : Int) = 1 := rfl
      omega
    subst hb0
    refine ⟨?_, ?_⟩
    · show fX10_divisor_4b _ _ _ = _
      unfold fX10_divisor_4b
      rw [if_pos rfl]; rfl
    · rintro (h | h)
      · exact h
      · exact absurd h (by decide)
  | n + 1, N + 1, a, b, ha, hb, h1, hN => by
    show fX10_divisor_4b _ _ _ = _ ∧ _
    unfold fX10_divisor_4b
    by_cases c : b = 0
    · subst c
      rw [if_pos rfl, edL_0]
      refine ⟨rfl, ?_⟩
      rintro (h | h)
      · exact h
      · exact absurd h (by decide)
    · have hbp := nz_pos hb c
      rw [if_neg c, if_neg c]
      have hr := i32_rem ha hbp
      have hr0 : 0 ≤ a.toInt % b.toInt := Int.emod_nonneg _ (by omega)
      have hr1 : a.toInt % b.toInt < b.toInt := Int.emod_lt_of_pos _ hbp
      have e1 : edL (2 * (n + 1)) a b = edL (2 * n + 1) b (a - a / b * b) := by
        show edL (2 * n + 1 + 1) a b = _
        conv => lhs; unfold edL
        rw [if_neg c]
      rw [e1]
      cases N with
      | zero => omega
      | succ N =>
        show fX10_divisor_4b _ _ _ = _ ∧ _
        unfold fX10_divisor_4b
        by_cases c2 : a - a / b * b = 0
        · rw [if_pos c2, c2, edL_0]
          exact ⟨rfl, fun _ => hbp⟩
        · rw [if_neg c2, if_neg c2]
          have hrp : 0 < (a - a / b * b).toInt := nz_pos (by rw [hr]; exact hr0) c2
          have hq := i32_rem hb hrp
          have e2 : edL (2 * n + 1) b (a - a / b * b) = edL (2 * n) (a - a / b * b) (b - b / (a - a / b * b) * (a - a / b * b)) := by
            conv => lhs; unfold edL
            rw [if_neg c2]
          rw [e2]
          have hh := halves hrp (by rw [hr]; exact hr1)
          have h2 : ((2 ^ (n + 1) : Nat) : Int) = 2 * ((2 ^ n : Nat) : Int) := by rw [Nat.pow_succ]; omega
          obtain ⟨k1, k2⟩ := m_div_loop n N (a - a / b * b) (b - b / (a - a / b * b) * (a - a / b * b)) (by omega) (by rw [hq]; exact Int.emod_nonneg _ (by omega)) (by rw [hq]; omega) (by omega)
          exact ⟨k1, fun _ => k2 (Or.inl hrp)⟩
theorem m_divisor {a b : Int32} (ha : 0 ≤ a.toInt) (hb : 0 ≤ b.toInt) : fnX10_divisor a b = some (edL 62 a b) ∧ ((0 < a.toInt ∨ 0 < b.toInt) → 0 < (edL 62 a b).toInt) :=
  m_div_loop 31 pz_F a b ha hb (by have := i32_hi b; show _ < (2147483648 : Int); omega) (by unfold pz_F; omega)
def shUp (w : Nat → Int32) (k : Nat) : Int32 := w (38 + 8 * k) * wed w k
def shLo (w : Nat → Int32) (k : Nat) : Int32 := if shUp w k = 0 then 1 else 1000 * svc w 0 1800
def shV (w : Nat → Int32) (p q : Int32) : Int32 := if inI p 0 (w 4 - 1) = 0 then -1 else if q = 0 then shUp w p.toNatClampNeg / edL 62 (shUp w p.toNatClampNeg) (shLo w p.toNatClampNeg) else shLo w p.toNatClampNeg / edL 62 (shUp w p.toNatClampNeg) (shLo w p.toNatClampNeg)
theorem sh_bd {w : Nat → Int32} (hv : Vld w) {k : Nat} (hk : k < cP w) : 0 ≤ (shUp w k).toInt ∧ 0 < (shLo w k).toInt ∧ (shUp w k).toInt = (w (38 + 8 * k)).toInt * (wed w k).toInt := by
  have h1 := wed_toInt hv hk
  have h2 := nS_toInt hv
  have h3 := (hv.sp hk).2.2.2.1
  have h4 : 0 ≤ (w (38 + 8 * k)).toInt * (wed w k).toInt := Int.mul_nonneg h3.1 h1.1
  have h5 : (w (38 + 8 * k)).toInt * (wed w k).toInt ≤ 1000 * (wed w k).toInt := Int.mul_le_mul_of_nonneg_right h3.2 h1.1
  have h6 : (shUp w k).toInt = (w (38 + 8 * k)).toInt * (wed w k).toInt := i32_mul (by omega) (by omega)
  refine ⟨by rw [h6]; exact h4, ?_, h6⟩
  unfold shLo
  by_cases c : shUp w k = 0
  · rw [if_pos c]; decide
  · rw [if_neg c]
    have h7 : 0 < (wed w k).toInt := by
      rcases Int.lt_or_eq_of_le h1.1 with q | q
      · exact q
      · exfalso; apply c; rw [i32_eq, h6, ← q, Int.mul_zero]; rfl
    have h8 : ((1000 : Int32) * svc w 0 1800).toInt = 1000 * (nS w).toInt := by
      have t : (1000 : Int32).toInt = 1000 := rfl
      have u : (svc w 0 1800).toInt = (nS w).toInt := rfl
      rw [i32_mul (by rw [t, u]; omega) (by rw [t, u]; omega), t, u]
    rw [h8]; omega
section MJ
variable {mo : Nat} {iv : Nat → Int32} {ia : Nat → Nat → Int32} {la : Nat → Nat → Int64} {g : pz_H}
theorem m_share (hv : Vld (ia 0)) (p q : Int32) : fnX10_share (MH mo iv ia la g) mo p q = some (shV (ia 0) p q, MH mo (va_up iv 0 0) ia la g) := by
  unfold fnX10_share fX10_share_44 fX10_share_70 shV
  simp only [mh_is, mh_g0, mh_g4, mh_g6, mh_g12, mh_g14, mh_g15, mh_g16, mh_g17, mh_g18, mh_g19, mh_g20, mh_r1, mh_r2, mh_r3, mh_r5, mh_r7, mh_r8, mh_r9, mh_r10, mh_r11, mh_r13, mh_r21, mh_s0, mh_s4, mh_s6, mh_s12, mh_s14, mh_s15, mh_s16, mh_s17, mh_s18, mh_s19, mh_s20, mh_w0, mh_w1, mh_w2, mh_w3, mh_w4, mh_w5, mh_w6, mh_w7, mh_w8, mh_w9, mh_w10, bs, m_isSpouse]
  by_cases c1 : inI p 0 (ia 0 4 - 1) = 0
  · simp only [c1, ↓reduceIte]
  simp only [c1, ↓reduceIte]
  obtain ⟨p1, p2⟩ := spo_of hv c1
  have hk4 := hv.p4 p2
  obtain ⟨b1, b2, _⟩ := sh_bd hv p2
  obtain ⟨d1, d2⟩ := m_divisor b1 (Int.le_of_lt b2)
  have d3 : ¬ edL 62 (shUp (ia 0) p.toNatClampNeg) (shLo (ia 0) p.toNatClampNeg) = 0 := by
    intro z; have := d2 (Or.inr b2); rw [z, z32] at this; omega
  simp only [m_its3 p1 hk4, m_wedIn hv.c p1 hk4, bs, m_served hv.c]
  have key : ∀ lo, lo = shLo (ia 0) p.toNatClampNeg → ((fnX10_divisor (ia 0 (38 + 8 * p.toNatClampNeg) * wed (ia 0) p.toNatClampNeg) lo).bind fun x1 =>
      if q = 0 then if x1 = 0 then none else some (ia 0 (38 + 8 * p.toNatClampNeg) * wed (ia 0) p.toNatClampNeg / x1, MH mo (va_up iv 0 0) ia la g)
      else if x1 = 0 then none else some (lo / x1, MH mo (va_up iv 0 0) ia la g)) = some (if q = 0 then shUp (ia 0) p.toNatClampNeg / edL 62 (shUp (ia 0) p.toNatClampNeg) (shLo (ia 0) p.toNatClampNeg) else shLo (ia 0) p.toNatClampNeg / edL 62 (shUp (ia 0) p.toNatClampNeg) (shLo (ia 0) p.toNatClampNeg), MH mo (va_up iv 0 0) ia la g) := by
    intro lo hlo
    subst hlo
    show ((fnX10_divisor (shUp (ia 0) p.toNatClampNeg) _).bind _) = _
    rw [d1, bs, if_neg d3, if_neg d3]
    split <;> rfl
  by_cases c2 : ia 0 (38 + 8 * p.toNatClampNeg) * wed (ia 0) p.toNatClampNeg = 0
  · rw [if_pos c2]; exact key 1 (by unfold shLo shUp; rw [if_pos c2])
  · rw [if_neg c2]; exact key _ (by unfold shLo shUp; rw [if_neg c2])
end MJ
/-- a code among those that are there, in order -/
def insL (x : Int32) : Nat → (Nat → Int32) → Nat → Int32
  | 0, c => upd c 0 x
  | n + 1, c => if c n ≤ x then upd c (n + 1) x else insL x n (upd c (n + 1) (c n))
theorem insL_cg {x : Int32} : ∀ (n : Nat) (c c' : Nat → Int32) (t : Nat), (∀ j, j < n ∨ (n < j ∧ j < t) → c j = c' j) → ∀ j, j < t ∨ j ≤ n → insL x n c j = insL x n c' j
  | 0, c, c', t, h, j, hj => by
    unfold insL
    by_cases e : j = 0
    · subst e; rw [upd_s, upd_s]
    · rw [upd_n e, upd_n e]; exact h j (Or.inr ⟨by omega, by omega⟩)
  | n + 1, c, c', t, h, j, hj => by
    unfold insL
    rw [h n (Or.inl (by omega))]
    by_cases q : c' n ≤ x
    · rw [if_pos q, if_pos q]
      by_cases e : j = n + 1
      · subst e; rw [upd_s, upd_s]
      · rw [upd_n e, upd_n e]
        by_cases e2 : j < n + 1
        · exact h j (Or.inl e2)
        · exact h j (Or.inr ⟨by omega, by omega⟩)
    · rw [if_neg q, if_neg q]
      refine insL_cg n _ _ (if n + 2 ≤ t then t else n + 2) ?_ j ?_
      · intro i hi
        by_cases e : i = n + 1
        · subst e; rw [upd_s, upd_s]
        · rw [upd_n e, upd_n e]
          rcases hi with a | ⟨a, b⟩
          · exact h i (Or.inl (by omega))
          · refine h i (Or.inr ⟨by omega, ?_⟩)
            by_cases w : n + 2 ≤ t
            · rw [if_pos w] at b; exact b
            · rw [if_neg w] at b; omega
      · by_cases w : n + 2 ≤ t
        · rw [if_pos w]; rcases hj with a | a
          · exact Or.inl a
          · left; omega
        · rw [if_neg w]; rcases hj with a | a
          · left; omega
          · left; omega
def evA (s : (Nat → Int32) × Nat) (m kd nu : Int32) : (Nat → Int32) × Nat := if m = -1 then s else (insL ((100 * m + 10 * kd) + nu) s.2 s.1, s.2 + 1)
theorem evA_le {s : (Nat → Int32) × Nat} {m kd nu : Int32} : (evA s m kd nu).2 ≤ s.2 + 1 := by
  unfold evA; by_cases c : m = -1
  · rw [if_pos c]; omega
  · rw [if_neg c]; exact Nat.le_refl _
def evSp (w : Nat → Int32) : Nat → (Nat → Int32) × Nat
  | 0 => (fun _ => 0, 0)
  | k + 1 => evA (evA (evSp w k) (w (11 + 3 * k)) 0 (nI k)) (w (12 + 3 * k)) 1 (nI k)
def evB (w : Nat → Int32) (k : Nat) : Int32 := if w (37 + 8 * k) = -1 then -1 else beg w k
def evQ (w : Nat → Int32) : Nat → (Nat → Int32) × Nat
  | 0 => evSp w (cS w)
  | k + 1 => evA (evA (evA (evA (evQ w k) (w (36 + 8 * k)) 2 (nI k)) (w (37 + 8 * k)) 3 (nI k)) (evB w k) 5 (nI k)) (w (42 + 8 * k)) 6 (nI k)
def evT (w : Nat → Int32) : (Nat → Int32) × Nat := evA (evA (evQ w (cP w)) (w 1) 4 0) (w 2) 7 0
theorem evSp_le (w : Nat → Int32) : ∀ k, (evSp w k).2 ≤ 2 * k
  | 0 => Nat.le_refl _
  | k + 1 => by
    have h := evSp_le w k
    have h1 := @evA_le (evSp w k) (w (11 + 3 * k)) 0 (nI k)
    have h2 := @evA_le (evA (evSp w k) (w (11 + 3 * k)) 0 (nI k)) (w (12 + 3 * k)) 1 (nI k)
    show (evA (evA (evSp w k) (w (11 + 3 * k)) 0 (nI k)) (w (12 + 3 * k)) 1 (nI k)).2 ≤ _
    omega
theorem evQ_le {w : Nat → Int32} (hc : Cnt w) : ∀ k, (evQ w k).2 ≤ 16 + 4 * k
  | 0 => by
    have h := evSp_le w (cS w)
    have := hc.1.2
    show (evSp w (cS w)).2 ≤ _
    omega
  | k + 1 => by
    have h := evQ_le hc k
    have h1 := @evA_le (evQ w k) (w (36 + 8 * k)) 2 (nI k)
    have h2 := @evA_le (evA (evQ w k) (w (36 + 8 * k)) 2 (nI k)) (w (37 + 8 * k)) 3 (nI k)
    have h3 := @evA_le (evA (evA (evQ w k) (w (36 + 8 * k)) 2 (nI k)) (w (37 + 8 * k)) 3 (nI k)) (evB w k) 5 (nI k)
    have h4 := @evA_le (evA (evA (evA (evQ w k) (w (36 + 8 * k)) 2 (nI k)) (w (37 + 8 * k)) 3 (nI k)) (evB w k) 5 (nI k)) (w (42 + 8 * k)) 6 (nI k)
    show (evA (evA (evA (evA (evQ w k) (w (36 + 8 * k)) 2 (nI k)) (w (37 + 8 * k)) 3 (nI k)) (evB w k) 5 (nI k)) (w (42 + 8 * k)) 6 (nI k)).2 ≤ _
    omega
def hapV (w : Nat → Int32) (i : Int32) : Int32 := if inI i 0 (nI (evT w).2 - 1) = 0 then -1 else (evT w).1 i.toNatClampNeg
/-- the row of what happens -/
def EvR (iv : Nat → Int32) (c : Nat → Int32) (s : (Nat → Int32) × Nat) : Prop := iv 12 = nI s.2 ∧ ∀ j, j < s.2 → c j = s.1 j
section MJ2
variable {mo : Nat} {iv : Nat → Int32} {ia : Nat → Nat → Int32} {la : Nat → Nat → Int64} {g : pz_H}
theorem up_up {A : Type} {f : Nat → A} {k : Nat} {x y : A} : va_up (va_up f k x) k y = va_up f k y := by
  funext j; unfold va_up; by_cases h : j = k
  · rw [if_pos h, if_pos h]
  · rw [if_neg h, if_neg h, if_neg h]
theorem up_s {A : Type} {f : Nat → A} {k : Nat} {x : A} : va_up f k x k = x := by unfold va_up; rw [if_pos rfl]
theorem up_n {A : Type} {f : Nat → A} {k j : Nat} {x : A} (h : j ≠ k) : va_up f k x j = f j := by unfold va_up; rw [if_neg h]
theorem m_hapIn_loop {x : Int32} : ∀ (N n : Nat) (ia : Nat → Nat → Int32), n < 40 → n < N → fX10_happensIn_25 N (MH mo iv ia la g) mo x (nI n) = some (MH mo (va_up iv 12 (iv 12 + 1)) (va_up ia 3 (insL x n (ia 3))) la g) := by
  intro N
  induction N with
  | zero => intro n _ _ h; omega
  | succ N ih =>
    intro n ia h4 hN
    show fX10_happensIn_25b _ _ _ _ _ = _
    unfold fX10_happensIn_25b fX10_happensIn_66
    cases n with
    | zero =>
      rw [if_pos (by decide)]
      simp only [mh_is, mh_g0, mh_g4, mh_g6, mh_g12, mh_g14, mh_g15, mh_g16, mh_g17, mh_g18, mh_g19, mh_g20, mh_r1, mh_r2, mh_r3, mh_r5, mh_r7, mh_r8, mh_r9, mh_r10, mh_r11, mh_r13, mh_r21, mh_s0, mh_s4, mh_s6, mh_s12, mh_s14, mh_s15, mh_s16, mh_s17, mh_s18, mh_s19, mh_s20, mh_w0, mh_w1, mh_w2, mh_w3, mh_w4, mh_w5, mh_w6, mh_w7, mh_w8, mh_w9, mh_w10, bs, mh_t3 (k := 0) rfl (by omega)]
      rfl
    | succ n =>
      rw [if_neg (by rw [show (0 : Int32) = nI 0 from rfl, nI_leI (by omega) (by omega)]; omega)]
      have e1 : nI (n + 1) - 1 = nI n := by rw [← nI_1]; exact Int32.add_sub_cancel _ _
      have e2 : nI (n + 1) + (-1) = nI n := by rw [← nI_1, Int32.add_assoc]; exact Int32.add_zero _
      simp only [mh_is, mh_g0, mh_g4, mh_g6, mh_g12, mh_g14, mh_g15, mh_g16, mh_g17, mh_g18, mh_g19, mh_g20, mh_r1, mh_r2, mh_r3, mh_r5, mh_r7, mh_r8, mh_r9, mh_r10, mh_r11, mh_r13, mh_r21, mh_s0, mh_s4, mh_s6, mh_s12, mh_s14, mh_s15, mh_s16, mh_s17, mh_s18, mh_s19, mh_s20, mh_w0, mh_w1, mh_w2, mh_w3, mh_w4, mh_w5, mh_w6, mh_w7, mh_w8, mh_w9, mh_w10, bs, e1, e2, mh_i3 (k := n) rfl (by omega), mh_t3 (k := n + 1) rfl (by omega)]
      unfold insL
      by_cases c : ia 3 n ≤ x
      · simp only [c, ↓reduceIte]
      · simp only [c, ↓reduceIte]
        rw [ih n _ (by omega) (by omega), up_s, up_up]
theorem m_hapIn {m kd nu : Int32} {s : (Nat → Int32) × Nat} (hs : s.2 < 40) (hr : EvR iv (ia 3) s) : ∃ iv' c', fnX10_happensIn (MH mo iv ia la g) mo m kd nu = some (MH mo iv' (va_up ia 3 c') la g) ∧ EvR iv' c' (evA s m kd nu) ∧ ∀ k, k ≠ 12 → iv' k = iv k := by
  unfold fnX10_happensIn evA
  simp only [mh_is, mh_g0, mh_g4, mh_g6, mh_g12, mh_g14, mh_g15, mh_g16, mh_g17, mh_g18, mh_g19, mh_g20, mh_r1, mh_r2, mh_r3, mh_r5, mh_r7, mh_r8, mh_r9, mh_r10, mh_r11, mh_r13, mh_r21, mh_s0, mh_s4, mh_s6, mh_s12, mh_s14, mh_s15, mh_s16, mh_s17, mh_s18, mh_s19, mh_s20, mh_w0, mh_w1, mh_w2, mh_w3, mh_w4, mh_w5, mh_w6, mh_w7, mh_w8, mh_w9, mh_w10, bs]
  by_cases c : m = -1
  · simp only [c, ↓reduceIte]
    refine ⟨iv, ia 3, ?_, hr, fun _ _ => rfl⟩
    have : va_up ia 3 (ia 3) = ia := by funext j; unfold va_up; by_cases h : j = 3
                                        · rw [if_pos h, h]
                                        · rw [if_neg h]
    rw [this]
  · simp only [c, ↓reduceIte]
    rw [hr.1, m_hapIn_loop pz_F s.2 ia hs (by unfold pz_F; omega)]
    refine ⟨_, _, rfl, ⟨?_, ?_⟩, fun k hk => up_n hk⟩
    · show iv 12 + 1 = _
      rw [hr.1, nI_1]
    · intro j hj
      exact insL_cg s.2 (ia 3) s.1 0 (fun i hi => by
        rcases hi with a | ⟨a, b⟩
        · exact hr.2 i a
        · omega) j (Or.inr (by have : j < s.2 + 1 := hj; omega))
theorem up30 {c : Nat → Int32} : va_up ia 3 c 0 = ia 0 := rfl
theorem m_hapC {c : Nat → Int32} {m kd nu : Int32} {s : (Nat → Int32) × Nat} (hr : EvR iv c s) (hs : s.2 < 40) : ∃ iv' c', fnX10_happensIn (MH mo iv (va_up ia 3 c) la g) mo m kd nu = some (MH mo iv' (va_up ia 3 c') la g) ∧ EvR iv' c' (evA s m kd nu) ∧ ∀ k, k ≠ 12 → iv' k = iv k := by
  obtain ⟨iv1, c1, e1, f1, f2⟩ := m_hapIn (mo := mo) (iv := iv) (ia := va_up ia 3 c) (la := la) (g := g) (m := m) (kd := kd) (nu := nu) hs (by rw [up_s]; exact hr)
  rw [up_up] at e1
  exact ⟨iv1, c1, e1, f1, f2⟩
theorem m_hap2_loop (hv : Vld (ia 0)) (i : Int32) : ∀ (N n : Nat) (iv : Nat → Int32) (c : Nat → Int32), EvR iv c (evQ (ia 0) n) → n ≤ cP (ia 0) → cP (ia 0) - n < N → ∃ iv' c', fX10_happens_54 N (MH mo iv (va_up ia 3 c) la g) mo i (nI n) = some (hapV (ia 0) i, MH mo iv' (va_up ia 3 c') la g) ∧ ∀ k, k ≠ 12 → iv' k = iv k := by
  intro N
  have h4 := hv.1.2.1
  induction N with
  | zero => intro n _ _ _ _ h; omega
  | succ N ih =>
    intro n iv c hr hn hN
    show ∃ iv' c', fX10_happens_54b _ _ _ _ _ = _ ∧ _
    unfold fX10_happens_54b fX10_happens_106 fX10_happens_180
    simp only [mh_is, mh_g0, mh_g4, mh_g6, mh_g12, mh_g14, mh_g15, mh_g16, mh_g17, mh_g18, mh_g19, mh_g20, mh_r1, mh_r2, mh_r3, mh_r5, mh_r7, mh_r8, mh_r9, mh_r10, mh_r11, mh_r13, mh_r21, mh_s0, mh_s4, mh_s6, mh_s12, mh_s14, mh_s15, mh_s16, mh_s17, mh_s18, mh_s19, mh_s20, mh_w0, mh_w1, mh_w2, mh_w3, mh_w4, mh_w5, mh_w6, mh_w7, mh_w8, mh_w9, mh_w10, bs, up30]
    rw [h4.1]
    have hq := evQ_le hv.c n
    by_cases cn : n = cP (ia 0)
    · subst cn
      rw [if_pos (Int32.le_refl _)]
      obtain ⟨iv1, c1, e1, f1, f2⟩ := m_hapC (mo := mo) (ia := ia) (la := la) (g := g) (m := ia 0 1) (kd := 4) (nu := 0) hr (by omega)
      have hq1 := @evA_le (evQ (ia 0) (cP (ia 0))) (ia 0 1) 4 0
      obtain ⟨iv2, c2, e2, f3, f4⟩ := m_hapC (mo := mo) (ia := ia) (la := la) (g := g) (m := ia 0 2) (kd := 7) (nu := 0) f1 (by omega)
      have hq2 := @evA_le (evA (evQ (ia 0) (cP (ia 0))) (ia 0 1) 4 0) (ia 0 2) 7 0
      have ff : ∀ k, k ≠ 12 → iv2 k = iv k := fun k hk => (f4 k hk).trans (f2 k hk)
      simp only [e1, bs, mh_r1, mh_w2, up30, e2, mh_g12, m_in]
      refine ⟨iv2, c2, ?_, ff⟩
      rw [f3.1]
      unfold hapV
      have hT : (evT (ia 0)).2 = (evA (evA (evQ (ia 0) (cP (ia 0))) (ia 0 1) 4 0) (ia 0 2) 7 0).2 := rfl
      rw [hT]
      by_cases ci : inI i 0 (nI (evA (evA (evQ (ia 0) (cP (ia 0))) (ia 0 1) 4 0) (ia 0 2) 7 0).2 - 1) = 0
      · rw [if_pos ci, if_pos ci]
      · rw [if_neg ci, if_neg ci]
        have hi : i = nI i.toNatClampNeg ∧ i.toNatClampNeg < (evA (evA (evQ (ia 0) (cP (ia 0))) (ia 0 1) 4 0) (ia 0 2) 7 0).2 := by
          generalize (evA (evA (evQ (ia 0) (cP (ia 0))) (ia 0 1) 4 0) (ia 0 2) 7 0).2 = z at ci hq2
          cases z with
          | zero =>
            exfalso; apply ci; rw [inI_0]
            by_cases d : i < 0
            · exact Or.inl d
            · right; rw [i32_lt] at d ⊢
              have : ((nI 0) - 1 : Int32).toInt = -1 := rfl
              rw [z32] at d; omega
          | succ z =>
            rw [show nI (z + 1) - 1 = nI z by rw [← nI_1]; exact Int32.add_sub_cancel _ _] at ci
            obtain ⟨a, b⟩ := row_of (by omega) ci
            exact ⟨a, by omega⟩
        simp only [mh_r11, bs, mh_i3 hi.1 (show i.toNatClampNeg < 64 by omega), up_s]
        rw [f3.2 _ hi.2]; rfl
    · have hlt : n < cP (ia 0) := by omega
      have hk4 : n < 4 := by omega
      rw [if_neg (by rw [nI_leI (by omega) (by omega)]; omega)]
      obtain ⟨iv1, c1, e1, f1, g1⟩ := m_hapC (mo := mo) (ia := ia) (la := la) (g := g) (m := ia 0 (36 + 8 * n)) (kd := 2) (nu := nI n) hr (by omega)
      have hq1 := @evA_le (evQ (ia 0) n) (ia 0 (36 + 8 * n)) 2 (nI n)
      obtain ⟨iv2, c2, e2, f2, g2⟩ := m_hapC (mo := mo) (ia := ia) (la := la) (g := g) (m := ia 0 (37 + 8 * n)) (kd := 3) (nu := nI n) f1 (by omega)
      have hq2 := @evA_le (evA (evQ (ia 0) n) (ia 0 (36 + 8 * n)) 2 (nI n)) (ia 0 (37 + 8 * n)) 3 (nI n)
      obtain ⟨iv3, c3, e3, f3, g3⟩ := m_hapC (mo := mo) (ia := ia) (la := la) (g := g) (m := evB (ia 0) n) (kd := 5) (nu := nI n) f2 (by omega)
      have hq3 := @evA_le (evA (evA (evQ (ia 0) n) (ia 0 (36 + 8 * n)) 2 (nI n)) (ia 0 (37 + 8 * n)) 3 (nI n)) (evB (ia 0) n) 5 (nI n)
      obtain ⟨iv4, c4, e4, f4, g4⟩ := m_hapC (mo := mo) (ia := ia) (la := la) (g := g) (m := ia 0 (42 + 8 * n)) (kd := 6) (nu := nI n) f3 (by omega)
      obtain ⟨iv5, c5, e5, g5⟩ := ih (n + 1) iv4 c4 f4 (by omega) (by omega)
      refine ⟨iv5, c5, ?_, fun k hk => (g5 k hk).trans ((g4 k hk).trans ((g3 k hk).trans ((g2 k hk).trans (g1 k hk))))⟩
      simp only [m_its1 (p := nI n) rfl hk4, m_its2 (p := nI n) rfl hk4, m_its7 (p := nI n) rfl hk4, m_isParted (p := nI n) rfl hk4, m_begin (p := nI n) rfl hk4, bs, up30, e1, e2]
      unfold evB at e3
      by_cases cp : ia 0 (37 + 8 * n) = -1
      · rw [if_pos cp] at e3
        simp only [cp, ↓reduceIte, e3, bs, m_its7 (p := nI n) rfl hk4, up30, e4, nI_1, e5]
      · rw [if_neg cp] at e3
        simp only [cp, ↓reduceIte, show ¬ (1 : Int32) = 0 by decide, e3, bs, m_its7 (p := nI n) rfl hk4, up30, e4, nI_1, e5]
theorem m_hap1_loop (hv : Vld (ia 0)) (i : Int32) : ∀ (N n : Nat) (iv : Nat → Int32) (c : Nat → Int32), EvR iv c (evSp (ia 0) n) → n ≤ cS (ia 0) → cS (ia 0) - n < N → ∃ iv' c', fX10_happens_12 N (MH mo iv (va_up ia 3 c) la g) mo i (nI n) = some (hapV (ia 0) i, MH mo iv' (va_up ia 3 c') la g) ∧ ∀ k, k ≠ 12 → iv' k = iv k := by
  intro N
  have h8 := hv.1.1
  induction N with
  | zero => intro n _ _ _ _ h; omega
  | succ N ih =>
    intro n iv c hr hn hN
    show ∃ iv' c', fX10_happens_12b _ _ _ _ _ = _ ∧ _
    unfold fX10_happens_12b
    simp only [mh_is, mh_g0, mh_g4, mh_g6, mh_g12, mh_g14, mh_g15, mh_g16, mh_g17, mh_g18, mh_g19, mh_g20, mh_r1, mh_r2, mh_r3, mh_r5, mh_r7, mh_r8, mh_r9, mh_r10, mh_r11, mh_r13, mh_r21, mh_s0, mh_s4, mh_s6, mh_s12, mh_s14, mh_s15, mh_s16, mh_s17, mh_s18, mh_s19, mh_s20, mh_w0, mh_w1, mh_w2, mh_w3, mh_w4, mh_w5, mh_w6, mh_w7, mh_w8, mh_w9, mh_w10, bs, up30]
    rw [h8.1]
    have hq := evSp_le (ia 0) n
    by_cases cn : n = cS (ia 0)
    · subst cn
      rw [if_pos (Int32.le_refl _)]
      exact m_hap2_loop hv i pz_F 0 iv c hr (by omega) (by have := hv.1.2.1.2; unfold pz_F; omega)
    · rw [if_neg (by rw [nI_leI (by omega) (by omega)]; omega)]
      obtain ⟨iv1, c1, e1, f1, g1⟩ := m_hapC (mo := mo) (ia := ia) (la := la) (g := g) (m := ia 0 (11 + 3 * n)) (kd := 0) (nu := nI n) hr (by omega)
      have hq1 := @evA_le (evSp (ia 0) n) (ia 0 (11 + 3 * n)) 0 (nI n)
      obtain ⟨iv2, c2, e2, f2, g2⟩ := m_hapC (mo := mo) (ia := ia) (la := la) (g := g) (m := ia 0 (12 + 3 * n)) (kd := 1) (nu := nI n) f1 (by omega)
      obtain ⟨iv5, c5, e5, g5⟩ := ih (n + 1) iv2 c2 f2 (by omega) (by omega)
      refine ⟨iv5, c5, ?_, fun k hk => (g5 k hk).trans ((g2 k hk).trans (g1 k hk))⟩
      simp only [m_sp0 (p := nI n) rfl (show n < 8 by omega), m_sp1 (p := nI n) rfl (show n < 8 by omega), bs, up30, e1, e2, nI_1, e5]
theorem m_happens (hv : Vld (ia 0)) (i : Int32) : ∃ iv' c', fnX10_happens (MH mo iv ia la g) mo i = some (hapV (ia 0) i, MH mo iv' (va_up ia 3 c') la g) ∧ ∀ k, k ≠ 0 → k ≠ 12 → iv' k = iv k := by
  unfold fnX10_happens
  simp only [mh_is, mh_g0, mh_g4, mh_g6, mh_g12, mh_g14, mh_g15, mh_g16, mh_g17, mh_g18, mh_g19, mh_g20, mh_r1, mh_r2, mh_r3, mh_r5, mh_r7, mh_r8, mh_r9, mh_r10, mh_r11, mh_r13, mh_r21, mh_s0, mh_s4, mh_s6, mh_s12, mh_s14, mh_s15, mh_s16, mh_s17, mh_s18, mh_s19, mh_s20, mh_w0, mh_w1, mh_w2, mh_w3, mh_w4, mh_w5, mh_w6, mh_w7, mh_w8, mh_w9, mh_w10, bs]
  obtain ⟨iv1, c1, e1, f1⟩ := m_hap1_loop (mo := mo) (la := la) (g := g) hv i pz_F 0 (va_up (va_up iv 0 0) 12 0) (ia 3) ⟨rfl, fun j hj => absurd hj (by show ¬ j < 0; omega)⟩ (by omega) (by have := hv.1.1.2; unfold pz_F; omega)
  have e0 : va_up ia 3 (ia 3) = ia := by
    funext j; unfold va_up
    by_cases h : j = 3
    · rw [if_pos h, h]
    · rw [if_neg h]
  rw [e0] at e1
  exact ⟨iv1, c1, e1, fun k h0 h12 => by rw [f1 k h12, up_n h12, up_n h0]⟩
end MJ2
