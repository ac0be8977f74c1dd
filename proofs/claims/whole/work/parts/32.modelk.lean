/-! ===== the reference: what is kept, set, undone ===== -/
theorem up_id {A : Type} {f : Nat → A} {k : Nat} : va_up f k (f k) = f := by
  funext j; unfold va_up
  by_cases h : j = k
  · rw [if_pos h, h]
  · rw [if_neg h]
/-- how many are kept then -/
def kpN (n : Nat) : Nat := if n = 12 then 12 else n + 1
/-- what is kept, when a row is added to n -/
def KpR (o : Nat → Int32) (n : Nat) (src : Nat → Int32) (c : Nat → Int32) : Prop := (∀ i, i + 1 < kpN n → ∀ j, j < 87 → c (87 * i + j) = o (87 * (if n = 12 then i + 1 else i) + j)) ∧ ∀ j, j < 87 → c (87 * (kpN n - 1) + j) = src j
section MK
variable {mo : Nat} {iv : Nat → Int32} {ia : Nat → Nat → Int32} {la : Nat → Nat → Int64} {g : pz_H}
theorem m_keeps51 {so s n : Nat} (hs : s ≠ 1) (hsrc : ∀ (iv : Nat → Int32) (ia : Nat → Nat → Int32) (k : Nat), k < 87 → pz_aI (MH mo iv ia la g) so 0 (nI k) = some (ia s k)) (hn : iv 4 = nI n) (h12 : n < 12) : ∀ (N i : Nat) (c : Nat → Int32), i ≤ 87 → 87 - i < N → (∀ j, j < i → c (87 * n + j) = ia s j) → ∃ c', fX10_keeps_51 N (MH mo iv (va_up ia 1 c) la g) mo so (nI i) = some (MH mo (va_up iv 4 (nI (n + 1))) (va_up ia 1 c') la g) ∧ (∀ j, j < 87 → c' (87 * n + j) = ia s j) ∧ ∀ t, t < 87 * n → c' t = c t := by
  intro N
  induction N with
  | zero => intro i _ _ h; omega
  | succ N ih =>
    intro i c hi hN hc
    show ∃ c', fX10_keeps_51b _ _ _ _ _ = _ ∧ _
    unfold fX10_keeps_51b
    by_cases e : i = 87
    · subst e
      rw [if_pos (by decide)]
      simp only [mh_is, mh_g0, mh_g4, mh_g6, mh_g12, mh_g14, mh_g15, mh_g16, mh_g17, mh_g18, mh_g19, mh_g20, mh_r1, mh_r2, mh_r3, mh_r5, mh_r7, mh_r8, mh_r9, mh_r10, mh_r11, mh_r13, mh_r21, mh_s0, mh_s4, mh_s6, mh_s12, mh_s14, mh_s15, mh_s16, mh_s17, mh_s18, mh_s19, mh_s20, mh_w0, mh_w1, mh_w2, mh_w3, mh_w4, mh_w5, mh_w6, mh_w7, mh_w8, mh_w9, mh_w10, bs]
      rw [hn, nI_1]
      exact ⟨c, rfl, hc, fun _ _ => rfl⟩
    · rw [if_neg (by rw [show (87 : Int32) = nI 87 from rfl, nI_leI (by decide) (by omega)]; omega)]
      simp only [mh_is, mh_g0, mh_g4, mh_g6, mh_g12, mh_g14, mh_g15, mh_g16, mh_g17, mh_g18, mh_g19, mh_g20, mh_r1, mh_r2, mh_r3, mh_r5, mh_r7, mh_r8, mh_r9, mh_r10, mh_r11, mh_r13, mh_r21, mh_s0, mh_s4, mh_s6, mh_s12, mh_s14, mh_s15, mh_s16, mh_s17, mh_s18, mh_s19, mh_s20, mh_w0, mh_w1, mh_w2, mh_w3, mh_w4, mh_w5, mh_w6, mh_w7, mh_w8, mh_w9, mh_w10, bs]
      rw [hsrc _ _ i (by omega), bs, hn]
      have hix : (87 : Int32) * nI n + nI i = nI (87 * n + i) := by rw [show (87 : Int32) = nI 87 from rfl, pk_mul, nI_add]
      rw [mh_t1 hix (by omega), bs, nI_1, up_s, up_up, up_n hs]
      obtain ⟨c', a1, a2, a3⟩ := ih (i + 1) (upd c (87 * n + i) (ia s i)) (by omega) (by omega) (fun j hj => by
        by_cases q : j = i
        · subst q; exact upd_s
        · rw [upd_n (by omega)]; exact hc j (by omega))
      exact ⟨c', a1, a2, fun t ht => by rw [a3 t ht, upd_n (by omega)]⟩
theorem m_keeps11 {so : Nat} {o : Nat → Int32} : ∀ (N i : Nat) (c : Nat → Int32), i ≤ 957 → 957 - i < N → (∀ t, t < i → c t = o (t + 87)) → (∀ t, i ≤ t → c t = o t) → ∃ c', fX10_keeps_11 N (MH mo iv (va_up ia 1 c) la g) mo so (nI i) = fX10_keeps_49 (MH mo (va_up iv 4 (iv 4 - 1)) (va_up ia 1 c') la g) mo so ∧ ∀ t, t < 957 → c' t = o (t + 87) := by
  intro N
  induction N with
  | zero => intro i _ _ h; omega
  | succ N ih =>
    intro i c hi hN h1 h2
    show ∃ c', fX10_keeps_11b _ _ _ _ _ = _ ∧ _
    unfold fX10_keeps_11b
    by_cases e : i = 957
    · subst e
      rw [if_pos (by decide)]
      simp only [mh_is, mh_g0, mh_g4, mh_g6, mh_g12, mh_g14, mh_g15, mh_g16, mh_g17, mh_g18, mh_g19, mh_g20, mh_r1, mh_r2, mh_r3, mh_r5, mh_r7, mh_r8, mh_r9, mh_r10, mh_r11, mh_r13, mh_r21, mh_s0, mh_s4, mh_s6, mh_s12, mh_s14, mh_s15, mh_s16, mh_s17, mh_s18, mh_s19, mh_s20, mh_w0, mh_w1, mh_w2, mh_w3, mh_w4, mh_w5, mh_w6, mh_w7, mh_w8, mh_w9, mh_w10, bs]
      exact ⟨c, rfl, h1⟩
    · rw [if_neg (by rw [show (957 : Int32) = nI 957 from rfl, nI_leI (by decide) (by omega)]; omega)]
      have hix : nI i + (87 : Int32) = nI (i + 87) := by rw [show (87 : Int32) = nI 87 from rfl, nI_add]
      simp only [mh_is, mh_g0, mh_g4, mh_g6, mh_g12, mh_g14, mh_g15, mh_g16, mh_g17, mh_g18, mh_g19, mh_g20, mh_r1, mh_r2, mh_r3, mh_r5, mh_r7, mh_r8, mh_r9, mh_r10, mh_r11, mh_r13, mh_r21, mh_s0, mh_s4, mh_s6, mh_s12, mh_s14, mh_s15, mh_s16, mh_s17, mh_s18, mh_s19, mh_s20, mh_w0, mh_w1, mh_w2, mh_w3, mh_w4, mh_w5, mh_w6, mh_w7, mh_w8, mh_w9, mh_w10, bs, mh_i1 hix (by omega), mh_t1 (k := i) rfl (by omega), up_s, up_up, nI_1]
      refine ih (i + 1) _ (by omega) (by omega) (fun t ht => ?_) (fun t ht => ?_)
      · by_cases q : t = i
        · subst q; rw [upd_s]; exact h2 _ (by omega)
        · rw [upd_n q]; exact h1 t (by omega)
      · rw [upd_n (by omega)]; exact h2 t (by omega)
theorem m_keepsS {so s n : Nat} (hs : s ≠ 1) (hsrc : ∀ (iv : Nat → Int32) (ia : Nat → Nat → Int32) (k : Nat), k < 87 → pz_aI (MH mo iv ia la g) so 0 (nI k) = some (ia s k)) (hn : iv 4 = nI n) (h12 : n ≤ 12) : ∃ iv' c', fnX10_keeps (MH mo iv ia la g) mo so = some (MH mo iv' (va_up ia 1 c') la g) ∧ KpR (ia 1) n (ia s) c' ∧ iv' 4 = nI (kpN n) ∧ ∀ k, k ≠ 4 → iv' k = iv k := by
  unfold fnX10_keeps
  simp only [mh_is, mh_g0, mh_g4, mh_g6, mh_g12, mh_g14, mh_g15, mh_g16, mh_g17, mh_g18, mh_g19, mh_g20, mh_r1, mh_r2, mh_r3, mh_r5, mh_r7, mh_r8, mh_r9, mh_r10, mh_r11, mh_r13, mh_r21, mh_s0, mh_s4, mh_s6, mh_s12, mh_s14, mh_s15, mh_s16, mh_s17, mh_s18, mh_s19, mh_s20, mh_w0, mh_w1, mh_w2, mh_w3, mh_w4, mh_w5, mh_w6, mh_w7, mh_w8, mh_w9, mh_w10, bs]
  by_cases e : n = 12
  · rw [if_pos (by rw [hn, e]; rfl)]
    obtain ⟨c1, a1, a2⟩ := m_keeps11 (mo := mo) (iv := iv) (ia := ia) (la := la) (g := g) (so := so) (o := ia 1) pz_F 0 (ia 1) (by omega) (by unfold pz_F; omega) (fun t ht => by omega) (fun t _ => rfl)
    rw [up_id] at a1
    have hn1 : va_up iv 4 (iv 4 - 1) 4 = nI 11 := by rw [up_s, hn, e]; rfl
    obtain ⟨c2, b1, b2, b3⟩ := m_keeps51 (mo := mo) (iv := va_up iv 4 (iv 4 - 1)) (ia := ia) (la := la) (g := g) hs hsrc hn1 (by omega) pz_F 0 c1 (by omega) (by unfold pz_F; omega) (fun j hj => by omega)
    unfold fX10_keeps_49 at a1
    refine ⟨_, c2, a1.trans b1, ⟨?_, ?_⟩, ?_, ?_⟩
    · intro i hi j hj
      unfold kpN at hi; rw [if_pos e] at hi
      rw [if_pos e, b3 _ (by omega), a2 _ (by omega), show 87 * i + j + 87 = 87 * (i + 1) + j by omega]
    · intro j hj
      unfold kpN; rw [if_pos e]
      exact b2 j hj
    · unfold kpN; rw [if_pos e, up_s]
    · intro k hk; rw [up_n hk, up_n hk]
  · rw [if_neg (by rw [hn, show (12 : Int32) = nI 12 from rfl, i32_eq, nI_toInt (by omega), nI_toInt (by decide)]; omega)]
    unfold fX10_keeps_49
    obtain ⟨c2, b1, b2, b3⟩ := m_keeps51 (mo := mo) (iv := iv) (ia := ia) (la := la) (g := g) hs hsrc hn (by omega) pz_F 0 (ia 1) (by omega) (by unfold pz_F; omega) (fun j hj => by omega)
    rw [up_id] at b1
    refine ⟨_, c2, b1, ⟨?_, ?_⟩, ?_, ?_⟩
    · intro i hi j hj
      unfold kpN at hi; rw [if_neg e] at hi
      rw [if_neg e, b3 _ (by omega)]
    · intro j hj
      unfold kpN; rw [if_neg e]
      exact b2 j hj
    · unfold kpN; rw [if_neg e, up_s]
    · intro k hk; rw [up_n hk]
theorem m_keeps0 {n : Nat} (hn : iv 4 = nI n) (h12 : n ≤ 12) : ∃ iv' c', fnX10_keeps (MH mo iv ia la g) mo (mo + 1) = some (MH mo iv' (va_up ia 1 c') la g) ∧ KpR (ia 1) n (ia 0) c' ∧ iv' 4 = nI (kpN n) ∧ ∀ k, k ≠ 4 → iv' k = iv k :=
  m_keepsS (s := 0) (by decide) (fun _ _ k hk => mh_i0 rfl hk) hn h12
theorem m_keeps2 {n : Nat} (hn : iv 4 = nI n) (h12 : n ≤ 12) : ∃ iv' c', fnX10_keeps (MH mo iv ia la g) mo (mo + 3) = some (MH mo iv' (va_up ia 1 c') la g) ∧ KpR (ia 1) n (ia 2) c' ∧ iv' 4 = nI (kpN n) ∧ ∀ k, k ≠ 4 → iv' k = iv k :=
  m_keepsS (s := 2) (by decide) (fun _ _ k hk => mh_i2 rfl hk) hn h12
theorem m_undo_loop {n : Nat} (hn : iv 4 = nI n) (h12 : n < 12) : ∀ (N i : Nat) (c : Nat → Int32), i ≤ 87 → 87 - i < N → (∀ j, j < i → c j = ia 1 (87 * n + j)) → ∃ c', fX10_undo_26 N (MH mo iv (va_up ia 0 c) la g) mo (nI i) = some (nI n, MH mo (va_up iv 6 0) (va_up ia 0 c') la g) ∧ ∀ j, j < 87 → c' j = ia 1 (87 * n + j) := by
  intro N
  induction N with
  | zero => intro i _ _ h; omega
  | succ N ih =>
    intro i c hi hN hc
    show ∃ c', fX10_undo_26b _ _ _ _ = _ ∧ _
    unfold fX10_undo_26b
    by_cases e : i = 87
    · subst e
      rw [if_pos (by decide)]
      simp only [mh_is, mh_g0, mh_g4, mh_g6, mh_g12, mh_g14, mh_g15, mh_g16, mh_g17, mh_g18, mh_g19, mh_g20, mh_r1, mh_r2, mh_r3, mh_r5, mh_r7, mh_r8, mh_r9, mh_r10, mh_r11, mh_r13, mh_r21, mh_s0, mh_s4, mh_s6, mh_s12, mh_s14, mh_s15, mh_s16, mh_s17, mh_s18, mh_s19, mh_s20, mh_w0, mh_w1, mh_w2, mh_w3, mh_w4, mh_w5, mh_w6, mh_w7, mh_w8, mh_w9, mh_w10, bs]
      exact ⟨c, by rw [up_n (by decide), hn], hc⟩
    · rw [if_neg (by rw [show (87 : Int32) = nI 87 from rfl, nI_leI (by decide) (by omega)]; omega)]
      have hix : (87 : Int32) * nI n + nI i = nI (87 * n + i) := by rw [show (87 : Int32) = nI 87 from rfl, pk_mul, nI_add]
      simp only [mh_is, mh_g0, mh_g4, mh_g6, mh_g12, mh_g14, mh_g15, mh_g16, mh_g17, mh_g18, mh_g19, mh_g20, mh_r1, mh_r2, mh_r3, mh_r5, mh_r7, mh_r8, mh_r9, mh_r10, mh_r11, mh_r13, mh_r21, mh_s0, mh_s4, mh_s6, mh_s12, mh_s14, mh_s15, mh_s16, mh_s17, mh_s18, mh_s19, mh_s20, mh_w0, mh_w1, mh_w2, mh_w3, mh_w4, mh_w5, mh_w6, mh_w7, mh_w8, mh_w9, mh_w10, bs]
      rw [hn, mh_i1 hix (by omega), bs, mh_t0 (k := i) rfl (by omega), bs, up_s, up_up, up_n (by decide), nI_1]
      exact ih (i + 1) _ (by omega) (by omega) (fun j hj => by
        by_cases q : j = i
        · subst q; exact upd_s
        · rw [upd_n q]; exact hc j (by omega))
theorem m_undo {n : Nat} (hn : iv 4 = nI n) (h12 : n ≤ 12) : (n = 0 ∧ fnX10_undo (MH mo iv ia la g) mo = some (-1, MH mo (va_up iv 0 0) ia la g)) ∨ (0 < n ∧ ∃ iv' c', fnX10_undo (MH mo iv ia la g) mo = some (nI (n - 1), MH mo iv' (va_up ia 0 c') la g) ∧ (∀ j, j < 87 → c' j = ia 1 (87 * (n - 1) + j)) ∧ iv' 4 = nI (n - 1) ∧ iv' 6 = 0 ∧ ∀ k, k ≠ 0 → k ≠ 4 → k ≠ 6 → iv' k = iv k) := by
  unfold fnX10_undo
  simp only [mh_is, mh_g0, mh_g4, mh_g6, mh_g12, mh_g14, mh_g15, mh_g16, mh_g17, mh_g18, mh_g19, mh_g20, mh_r1, mh_r2, mh_r3, mh_r5, mh_r7, mh_r8, mh_r9, mh_r10, mh_r11, mh_r13, mh_r21, mh_s0, mh_s4, mh_s6, mh_s12, mh_s14, mh_s15, mh_s16, mh_s17, mh_s18, mh_s19, mh_s20, mh_w0, mh_w1, mh_w2, mh_w3, mh_w4, mh_w5, mh_w6, mh_w7, mh_w8, mh_w9, mh_w10, bs]
  rw [up_n (by decide), hn]
  cases n with
  | zero => left; exact ⟨rfl, rfl⟩
  | succ n =>
    right
    rw [if_neg (by rw [show (0 : Int32) = nI 0 from rfl, i32_eq, nI_toInt (by omega), nI_toInt (by decide)]; omega)]
    have e1 : nI (n + 1) - 1 = nI n := by rw [← nI_1]; exact Int32.add_sub_cancel _ _
    rw [e1]
    obtain ⟨c', a1, a2⟩ := m_undo_loop (mo := mo) (iv := va_up (va_up iv 0 0) 4 (nI n)) (ia := ia) (la := la) (g := g) (n := n) up_s (by omega) pz_F 0 (ia 0) (by omega) (by unfold pz_F; omega) (fun j hj => by omega)
    rw [up_id] at a1
    refine ⟨by omega, _, c', a1, a2, ?_, up_s, ?_⟩
    · rw [up_n (by decide), up_s]; rfl
    · intro k h0 h4 h6; rw [up_n h6, up_n h4, up_n h0]
/-- the row of one who is born -/
def bgW (b : Int32) (j : Nat) : Int32 := if j = 0 then b else if j = 1 then -1 else if j = 2 then -1 else if j = 6 then 200 else if j = 7 then 780 else if j = 8 then 3 else if j = 9 then 20 else if j = 10 then 30 else 0
theorem m_begins_loop (b : Int32) : ∀ (N i : Nat) (c : Nat → Int32), i ≤ 87 → 87 - i < N → (∀ j, j < i → c j = 0) → ∃ c', fX10_begins_2 N (MH mo iv (va_up ia 0 c) la g) mo b (nI i) = some (MH mo iv (va_up ia 0 c') la g) ∧ (∀ j, j < 87 → c' j = bgW b j) ∧ ∀ j, 87 ≤ j → c' j = c j := by
  intro N
  induction N with
  | zero => intro i _ _ h; omega
  | succ N ih =>
    intro i c hi hN hc
    show ∃ c', fX10_begins_2b _ _ _ _ _ = _ ∧ _
    unfold fX10_begins_2b
    by_cases e : i = 87
    · subst e
      rw [if_pos (by decide)]
      simp only [mh_is, mh_g0, mh_g4, mh_g6, mh_g12, mh_g14, mh_g15, mh_g16, mh_g17, mh_g18, mh_g19, mh_g20, mh_r1, mh_r2, mh_r3, mh_r5, mh_r7, mh_r8, mh_r9, mh_r10, mh_r11, mh_r13, mh_r21, mh_s0, mh_s4, mh_s6, mh_s12, mh_s14, mh_s15, mh_s16, mh_s17, mh_s18, mh_s19, mh_s20, mh_w0, mh_w1, mh_w2, mh_w3, mh_w4, mh_w5, mh_w6, mh_w7, mh_w8, mh_w9, mh_w10, bs, mh_t0 (i := (0 : Int32)) (k := 0) rfl (by decide), mh_t0 (i := (1 : Int32)) (k := 1) rfl (by decide), mh_t0 (i := (2 : Int32)) (k := 2) rfl (by decide), mh_t0 (i := (6 : Int32)) (k := 6) rfl (by decide), mh_t0 (i := (7 : Int32)) (k := 7) rfl (by decide), mh_t0 (i := (8 : Int32)) (k := 8) rfl (by decide), mh_t0 (i := (9 : Int32)) (k := 9) rfl (by decide), mh_t0 (i := (10 : Int32)) (k := 10) rfl (by decide), up_s, up_up]
      refine ⟨_, rfl, fun j hj => ?_, fun j hj => by rw [upd_n (by omega), upd_n (by omega), upd_n (by omega), upd_n (by omega), upd_n (by omega), upd_n (by omega), upd_n (by omega), upd_n (by omega)]⟩
      unfold bgW upd
      by_cases q0 : j = 0
      · subst q0; rfl
      by_cases q1 : j = 1
      · subst q1; rfl
      by_cases q2 : j = 2
      · subst q2; rfl
      by_cases q6 : j = 6
      · subst q6; rfl
      by_cases q7 : j = 7
      · subst q7; rfl
      by_cases q8 : j = 8
      · subst q8; rfl
      by_cases q9 : j = 9
      · subst q9; rfl
      by_cases q10 : j = 10
      · subst q10; rfl
      simp only [q0, q1, q2, q6, q7, q8, q9, q10, ↓reduceIte]
      exact hc j hj
    · rw [if_neg (by rw [show (87 : Int32) = nI 87 from rfl, nI_leI (by decide) (by omega)]; omega)]
      simp only [mh_is, mh_g0, mh_g4, mh_g6, mh_g12, mh_g14, mh_g15, mh_g16, mh_g17, mh_g18, mh_g19, mh_g20, mh_r1, mh_r2, mh_r3, mh_r5, mh_r7, mh_r8, mh_r9, mh_r10, mh_r11, mh_r13, mh_r21, mh_s0, mh_s4, mh_s6, mh_s12, mh_s14, mh_s15, mh_s16, mh_s17, mh_s18, mh_s19, mh_s20, mh_w0, mh_w1, mh_w2, mh_w3, mh_w4, mh_w5, mh_w6, mh_w7, mh_w8, mh_w9, mh_w10, bs, mh_t0 (k := i) rfl (show i < 87 by omega), up_s, up_up, nI_1]
      obtain ⟨c', a1, a2, a3⟩ := ih (i + 1) (upd c i 0) (by omega) (by omega) (fun j hj => by
        by_cases q : j = i
        · subst q; exact upd_s
        · rw [upd_n q]; exact hc j (by omega))
      exact ⟨c', a1, a2, fun j hj => by rw [a3 j hj, upd_n (by omega)]⟩
def bgX (b : Int32) (w : Nat → Int32) (j : Nat) : Int32 := if j < 87 then bgW b j else w j
theorem m_begins (b : Int32) : fnX10_begins (MH mo iv ia la g) mo b = some (MH mo iv (va_up ia 0 (bgX b (ia 0))) la g) := by
  unfold fnX10_begins
  simp only [mh_is, mh_g0, mh_g4, mh_g6, mh_g12, mh_g14, mh_g15, mh_g16, mh_g17, mh_g18, mh_g19, mh_g20, mh_r1, mh_r2, mh_r3, mh_r5, mh_r7, mh_r8, mh_r9, mh_r10, mh_r11, mh_r13, mh_r21, mh_s0, mh_s4, mh_s6, mh_s12, mh_s14, mh_s15, mh_s16, mh_s17, mh_s18, mh_s19, mh_s20, mh_w0, mh_w1, mh_w2, mh_w3, mh_w4, mh_w5, mh_w6, mh_w7, mh_w8, mh_w9, mh_w10, bs]
  obtain ⟨c', a1, a2, a3⟩ := m_begins_loop (mo := mo) (iv := iv) (ia := ia) (la := la) (g := g) b pz_F 0 (ia 0) (by omega) (by unfold pz_F; omega) (fun j hj => by omega)
  rw [up_id] at a1
  have : c' = bgX b (ia 0) := by
    funext j; unfold bgX
    by_cases h : j < 87
    · rw [if_pos h]; exact a2 j h
    · rw [if_neg h]; exact a3 j (by omega)
  rw [← this]; exact a1
end MK
