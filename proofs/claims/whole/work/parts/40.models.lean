/-! ===== the reference: tell, feed ===== -/
def telL (tp : Nat → Int32) (n : Nat) : Nat → Nat → (Nat → Int32) → Nat → Int32 × (Nat → Int32) × Nat
  | 0, _, w, c => (0, w, c)
  | r + 1, a, w, c => if hrV tp n (nxA tp n a) = -1 then (0, w, c) else if (stmF tp n (nxA tp n a) w).1 = 0 then telL tp n r (stmF tp n (nxA tp n a) w).2.1 (stmF tp n (nxA tp n a) w).2.2 (c + 1) else ((stmF tp n (nxA tp n a) w).1, w, c + 1)
def telT (tp : Nat → Int32) (n : Nat) (w : Nat → Int32) : Int32 × (Nat → Int32) × Nat := telL tp n (n + 1) 0 w 0
theorem telL_ok {tp : Nat → Int32} {n : Nat} (hn : n ≤ 400) : ∀ (r a : Nat) (w : Nat → Int32) (c : Nat), Vld w → a ≤ n → c ≤ a → Vld (telL tp n r a w c).2.1 ∧ (telL tp n r a w c).2.2 ≤ n + 1
  | 0, a, w, c, hv, ha, hc => ⟨hv, by show c ≤ _; omega⟩
  | r + 1, a, w, c, hv, ha, hc => by
    have h1 := nxA_le tp ha
    unfold telL
    by_cases d1 : hrV tp n (nxA tp n a) = -1
    · rw [if_pos d1]; exact ⟨hv, by show c ≤ _; omega⟩
    rw [if_neg d1]
    by_cases d2 : (stmF tp n (nxA tp n a) w).1 = 0
    · rw [if_pos d2]
      obtain ⟨b1, b2, b3⟩ := gd_stm hv hn h1.2 d2
      exact telL_ok hn r _ _ _ b1 b3 (by omega)
    · rw [if_neg d2]; exact ⟨hv, by show c + 1 ≤ _; omega⟩
/-- a statement that fails leaves what is told -/
def Nw (w : Nat → Int32) (r : Int32 × Nat × (Nat → Int32)) : Prop := ¬ r.1 = 0 → r.2.2 = w
theorem nx_nw {r : Int32 × Nat × Int32} {w : Nat → Int32} {K : Nat → Int32 → Int32 × Nat × (Nat → Int32)} (h : ∀ a v, Nw w (K a v)) : Nw w (nx r w K) := by
  by_cases c : r.1 = 0
  · rw [nx_ok c]; exact h _ _
  · rw [nx_no c]; exact fun _ => rfl
theorem nw_if {w : Nat → Int32} {c : Prop} [Decidable c] {x y : Int32 × Nat × (Nat → Int32)} (hx : Nw w x) (hy : Nw w y) : Nw w (if c then x else y) := by split <;> assumption
theorem nw_0 {w w' : Nat → Int32} {a : Nat} : Nw w (0, a, w') := fun h => absurd rfl h
theorem nw_w {w : Nat → Int32} {a : Nat} {c : Int32} : Nw w (c, a, w) := fun _ => rfl
theorem nw_one {tp w : Nat → Int32} {n a b : Nat} {x y : Int32} : Nw w (oneF tp n a b w x y) := nx_nw fun _ _ => nx_nw fun _ _ => nw_if nw_w nw_0
theorem nw_ofs {tp w : Nat → Int32} {n a b : Nat} {x : Int32} : Nw w (ofsF tp n a b w x) := nx_nw fun _ _ => nx_nw fun _ _ => nx_nw fun _ _ => nw_if nw_w nw_0
theorem stmF_nw {tp : Nat → Int32} {n a : Nat} {w : Nat → Int32} : Nw w (stmF tp n a w) := by
  unfold stmF stmB
  refine nw_if nw_w (nw_if ?_ (nw_if ?_ (nw_if ?_ (nw_if ?_ (nw_if ?_ (nw_if nw_ofs (nw_if nw_ofs (nw_if nw_one (nw_if nw_one (nw_if nw_w nw_one))))))))))
  · exact nx_nw fun _ _ => nx_nw fun _ _ => nw_0
  · exact nw_if nw_w (nx_nw fun _ _ => nx_nw fun _ _ => nx_nw fun _ _ => nx_nw fun _ _ => nw_if nw_w (nw_if nw_w (nw_if nw_w (nw_if nw_0 (nw_if nw_0 nw_w)))))
  · exact nw_if nw_w (nx_nw fun _ _ => nx_nw fun _ _ => nx_nw fun _ _ => nw_if nw_w (nw_if nw_w (nw_if nw_0 (nw_if nw_w (nw_if nw_0 nw_w)))))
  · exact nx_nw fun _ _ => nx_nw fun _ _ => nx_nw fun _ _ => nx_nw fun _ _ => nx_nw fun _ _ => nw_if nw_w (nw_if (nw_if nw_0 nw_w) nw_w)
  · exact nx_nw fun _ _ => nx_nw fun _ _ => nx_nw fun _ _ => nw_if nw_w (nw_if nw_w nw_0)
theorem stmF_no {tp : Nat → Int32} {n a : Nat} {w : Nat → Int32} (h : ¬ (stmF tp n a w).1 = 0) : (stmF tp n a w).2.2 = w := stmF_nw h
section MS
variable {mo : Nat} {iv : Nat → Int32} {ia : Nat → Nat → Int32} {la : Nat → Nat → Int64} {g : pz_H}
theorem m_tell48 {n : Nat} (h4 : n ≤ 400) : ∀ (N r a c : Nat) (iv : Nat → Int32) (ia : Nat → Nat → Int32), Vld (ia 0) → a ≤ n → n < a + r → r + 1 < N → c ≤ a → iv 14 = nI n → iv 16 = nI a → iv 17 = 0 → iv 20 = nI c → ∃ iv' ia', fX10_tell_48 N (MH mo iv ia la g) mo 1 = fX10_tell_78 (MH mo iv' ia' la g) mo (okI (telL (ia 4) n r a (ia 0) c).1) ∧ iv' 17 = (telL (ia 4) n r a (ia 0) c).1 ∧ iv' 20 = nI (telL (ia 4) n r a (ia 0) c).2.2 ∧ (∀ q, q < 16 → iv' q = iv q) ∧ ia' 0 = (telL (ia 4) n r a (ia 0) c).2.1 ∧ ∀ j, j ≠ 0 → j ≠ 5 → ia' j = ia j := by
  intro N
  induction N with
  | zero => intro r a c iv ia _ _ _ h; omega
  | succ N ih =>
    intro r a c iv ia hv ha hr hN hc h14 h16 h17 h20
    obtain ⟨r, rfl⟩ : ∃ m, r = m + 1 := ⟨r - 1, by omega⟩
    have u0 : Cur iv ia iv ia n a := Cur.beg h14 h4 h16 ha
    have h1 := nxA_le (ia 4) ha
    show ∃ iv' ia', fX10_tell_48b _ _ _ _ = _ ∧ _
    unfold fX10_tell_48b
    rw [if_neg one_0, m_stepR u0, bs]
    dsimp only
    unfold telL
    by_cases d1 : hrV (ia 4) n (nxA (ia 4) n a) = -1
    · rw [if_pos d1, if_pos d1]
      exact ⟨_, ia, rfl, by rw [up_n (by decide)]; exact h17, by rw [up_n (by decide)]; exact h20, fun q hq => up_n (by omega), rfl, fun _ _ _ => rfl⟩
    rw [if_neg d1, if_neg d1]
    have u1 := u0.hr
    obtain ⟨iv2, ia2, e2, r2, w2, o2⟩ := m_stmt (mo := mo) (la := la) (g := g) hv (Cur.beg u1.1 u1.2.1 u1.2.2.1 u1.2.2.2.1)
    rw [e2, bs]
    dsimp only
    rw [mh_g20, bs, mh_s20, bs]
    have h20' : iv2 20 = nI c := by rw [r2.2.2.2 20 (by omega), up_n (by decide)]; exact h20
    have h17' : va_up iv 16 (nI (nxA (ia 4) n a)) 17 = 0 := by rw [up_n (by decide)]; exact h17
    have o16 : ∀ q, q < 16 → iv2 q = iv q := fun q hq => by rw [r2.2.2.2 q (Or.inl hq), up_n (by omega)]
    by_cases d2 : (stmF (ia 4) n (nxA (ia 4) n a) (ia 0)).1 = 0
    · obtain ⟨b1, b2, b3⟩ := gd_stm hv h4 h1.2 d2
      rw [if_pos d2, d2]
      have key := ih r (stmF (ia 4) n (nxA (ia 4) n a) (ia 0)).2.1 (c + 1) (va_up iv2 20 (iv2 20 + 1)) ia2 (by rw [w2]; exact b1) b3 (by omega) (by omega) (by omega) (by rw [up_n (by decide), o16 14 (by omega)]; exact h14) (by rw [up_n (by decide)]; exact r2.1) (by rw [up_n (by decide), r2.2.1 d2]; exact h17') (by rw [up_s, h20', nI_1])
      rw [o2 4 (by decide) (by decide), w2] at key
      obtain ⟨iv3, ia3, e3, k1, k2, k3, k4, k5⟩ := key
      exact ⟨iv3, ia3, e3, k1, k2, fun q hq => by rw [k3 q hq, up_n (by omega)]; exact o16 q hq, k4, fun j h0 h5 => by rw [k5 j h0 h5]; exact o2 j h0 h5⟩
    · rw [if_neg d2]
      have hz : okI (stmF (ia 4) n (nxA (ia 4) n a) (ia 0)).1 = 0 := okI_0.mpr d2
      rw [hz]
      cases N with
      | zero => omega
      | succ N =>
        refine ⟨va_up iv2 20 (iv2 20 + 1), ia2, ?_, by rw [up_n (by decide)]; exact r2.2.2.1 d2, by rw [up_s, h20', nI_1], fun q hq => by rw [up_n (by omega)]; exact o16 q hq, ?_, o2⟩
        · show fX10_tell_48b _ _ _ _ = _
          unfold fX10_tell_48b
          rw [if_pos rfl]
        · rw [w2]
          -- a statement that fails leaves what is told
          show (stmF (ia 4) n (nxA (ia 4) n a) (ia 0)).2.2 = ia 0
          exact stmF_no d2
theorem m_tell7 : ∀ (N i : Nat) (c : Nat → Int32), i ≤ 87 → 87 - i < N → (∀ j, j < i → c j = ia 0 j) → ∃ c', fX10_tell_7 N (MH mo iv (va_up ia 2 c) la g) mo (nI i) = fX10_tell_48 pz_F (MH mo (va_up (va_up (va_up iv 20 0) 16 0) 17 0) (va_up ia 2 c') la g) mo 1 ∧ ∀ j, j < 87 → c' j = ia 0 j := by
  intro N
  induction N with
  | zero => intro i _ _ h; omega
  | succ N ih =>
    intro i c hi hN hc
    show ∃ c', fX10_tell_7b _ _ _ _ = _ ∧ _
    unfold fX10_tell_7b
    by_cases e : i = 87
    · subst e
      rw [if_pos (by decide)]
      simp only [mh_is, mh_g0, mh_g4, mh_g6, mh_g12, mh_g14, mh_g15, mh_g16, mh_g17, mh_g18, mh_g19, mh_g20, mh_r1, mh_r2, mh_r3, mh_r5, mh_r7, mh_r8, mh_r9, mh_r10, mh_r11, mh_r13, mh_r21, mh_s0, mh_s4, mh_s6, mh_s12, mh_s14, mh_s15, mh_s16, mh_s17, mh_s18, mh_s19, mh_s20, mh_w0, mh_w1, mh_w2, mh_w3, mh_w4, mh_w5, mh_w6, mh_w7, mh_w8, mh_w9, mh_w10, bs]
      exact ⟨c, rfl, hc⟩
    · rw [if_neg (by rw [show (87 : Int32) = nI 87 from rfl, nI_leI (by decide) (by omega)]; omega)]
      simp only [mh_is, mh_g0, mh_g4, mh_g6, mh_g12, mh_g14, mh_g15, mh_g16, mh_g17, mh_g18, mh_g19, mh_g20, mh_r1, mh_r2, mh_r3, mh_r5, mh_r7, mh_r8, mh_r9, mh_r10, mh_r11, mh_r13, mh_r21, mh_s0, mh_s4, mh_s6, mh_s12, mh_s14, mh_s15, mh_s16, mh_s17, mh_s18, mh_s19, mh_s20, mh_w0, mh_w1, mh_w2, mh_w3, mh_w4, mh_w5, mh_w6, mh_w7, mh_w8, mh_w9, mh_w10, bs]
      rw [mh_i0 (k := i) rfl (by omega), bs, mh_t2 (k := i) rfl (by omega), bs, up_s, up_up, up_n (by decide), nI_1]
      exact ih (i + 1) _ (by omega) (by omega) (fun j hj => by
        by_cases q : j = i
        · subst q; exact upd_s
        · rw [upd_n q]; exact hc j (by omega))
theorem m_tell122 : ∀ (N i : Nat) (c : Nat → Int32), i ≤ 87 → 87 - i < N → (∀ j, j < i → c j = ia 2 j) → ∃ c', fX10_tell_122 N (MH mo iv (va_up ia 0 c) la g) mo (nI i) = some (-1, MH mo iv (va_up ia 0 c') la g) ∧ ∀ j, j < 87 → c' j = ia 2 j := by
  intro N
  induction N with
  | zero => intro i _ _ h; omega
  | succ N ih =>
    intro i c hi hN hc
    show ∃ c', fX10_tell_122b _ _ _ _ = _ ∧ _
    unfold fX10_tell_122b
    by_cases e : i = 87
    · subst e
      rw [if_pos (by decide)]
      exact ⟨c, rfl, hc⟩
    · rw [if_neg (by rw [show (87 : Int32) = nI 87 from rfl, nI_leI (by decide) (by omega)]; omega)]
      simp only [mh_is, mh_g0, mh_g4, mh_g6, mh_g12, mh_g14, mh_g15, mh_g16, mh_g17, mh_g18, mh_g19, mh_g20, mh_r1, mh_r2, mh_r3, mh_r5, mh_r7, mh_r8, mh_r9, mh_r10, mh_r11, mh_r13, mh_r21, mh_s0, mh_s4, mh_s6, mh_s12, mh_s14, mh_s15, mh_s16, mh_s17, mh_s18, mh_s19, mh_s20, mh_w0, mh_w1, mh_w2, mh_w3, mh_w4, mh_w5, mh_w6, mh_w7, mh_w8, mh_w9, mh_w10, bs]
      rw [mh_i2 (k := i) rfl (by omega), bs, mh_t0 (k := i) rfl (by omega), bs, up_s, up_up, up_n (by decide), nI_1]
      exact ih (i + 1) _ (by omega) (by omega) (fun j hj => by
        by_cases q : j = i
        · subst q; exact upd_s
        · rw [upd_n q]; exact hc j (by omega))
theorem m_tell {n k : Nat} (hv : Vld (ia 0)) (hn : iv 14 = nI n) (h4 : n ≤ 400) (hk : iv 4 = nI k) (h12 : k ≤ 12) : ∃ iv' ia', fnX10_tell (MH mo iv ia la g) mo = some (if (telT (ia 4) n (ia 0)).1 = 0 then nI (telT (ia 4) n (ia 0)).2.2 else -1, MH mo iv' ia' la g) ∧ iv' 14 = 0 ∧ iv' 15 = (telT (ia 4) n (ia 0)).1 ∧ iv' 6 = 0 ∧ ia' 4 = ia 4 ∧
    (((telT (ia 4) n (ia 0)).1 = 0 ∧ 0 < (telT (ia 4) n (ia 0)).2.2 ∧ ia' 0 = (telT (ia 4) n (ia 0)).2.1 ∧ iv' 4 = nI (kpN k) ∧ KpR (ia 1) k (ia 0) (ia' 1)) ∨
     ((telT (ia 4) n (ia 0)).1 = 0 ∧ (telT (ia 4) n (ia 0)).2.2 = 0 ∧ ia' 0 = (telT (ia 4) n (ia 0)).2.1 ∧ iv' 4 = nI k ∧ ia' 1 = ia 1) ∨
     (¬ (telT (ia 4) n (ia 0)).1 = 0 ∧ (∀ j, j < 87 → ia' 0 j = ia 0 j) ∧ iv' 4 = nI k ∧ ia' 1 = ia 1)) := by
  unfold fnX10_tell
  simp only [mh_is, mh_g0, mh_g4, mh_g6, mh_g12, mh_g14, mh_g15, mh_g16, mh_g17, mh_g18, mh_g19, mh_g20, mh_r1, mh_r2, mh_r3, mh_r5, mh_r7, mh_r8, mh_r9, mh_r10, mh_r11, mh_r13, mh_r21, mh_s0, mh_s4, mh_s6, mh_s12, mh_s14, mh_s15, mh_s16, mh_s17, mh_s18, mh_s19, mh_s20, mh_w0, mh_w1, mh_w2, mh_w3, mh_w4, mh_w5, mh_w6, mh_w7, mh_w8, mh_w9, mh_w10, bs]
  obtain ⟨c1, a1, a2⟩ := m_tell7 (mo := mo) (iv := va_up iv 0 0) (ia := ia) (la := la) (g := g) pz_F 0 (ia 2) (by omega) (by unfold pz_F; omega) (fun j hj => by omega)
  rw [up_id] at a1
  have a1' : fX10_tell_7 pz_F (MH mo (va_up iv 0 0) ia la g) mo 0 = _ := a1
  rw [a1']
  obtain ⟨iv2, ia2, e2, k1, k2, k3, k4, k5⟩ := m_tell48 (mo := mo) (la := la) (g := g) h4 pz_F (n + 1) 0 0 (va_up (va_up (va_up (va_up iv 0 0) 20 0) 16 0) 17 0) (va_up ia 2 c1) hv (by omega) (by omega) (by unfold pz_F; omega) (by omega) (by rw [up_n (by decide), up_n (by decide), up_n (by decide), up_n (by decide)]; exact hn) rfl up_s rfl
  rw [e2]
  have eT : telL (va_up ia 2 c1 4) n (n + 1) 0 (va_up ia 2 c1 0) 0 = telT (ia 4) n (ia 0) := rfl
  rw [eT] at k1 k2 k4 ⊢
  have hb := (telL_ok (tp := ia 4) h4 (n + 1) 0 (ia 0) 0 hv (by omega) (by omega)).2
  have eT2 : telL (ia 4) n (n + 1) 0 (ia 0) 0 = telT (ia 4) n (ia 0) := rfl
  rw [eT2] at hb
  have q4 : iv2 4 = nI k := by rw [k3 4 (by omega), up_n (by decide), up_n (by decide), up_n (by decide), up_n (by decide)]; exact hk
  have d2 : ia2 2 = c1 := by rw [k5 2 (by decide) (by decide)]; exact up_s
  have d1 : ia2 1 = ia 1 := by rw [k5 1 (by decide) (by decide)]; exact up_n (by decide)
  have d4 : ia2 4 = ia 4 := by rw [k5 4 (by decide) (by decide)]; exact up_n (by decide)
  unfold fX10_tell_78 fX10_tell_115
  simp only [mh_is, mh_g0, mh_g4, mh_g6, mh_g12, mh_g14, mh_g15, mh_g16, mh_g17, mh_g18, mh_g19, mh_g20, mh_r1, mh_r2, mh_r3, mh_r5, mh_r7, mh_r8, mh_r9, mh_r10, mh_r11, mh_r13, mh_r21, mh_s0, mh_s4, mh_s6, mh_s12, mh_s14, mh_s15, mh_s16, mh_s17, mh_s18, mh_s19, mh_s20, mh_w0, mh_w1, mh_w2, mh_w3, mh_w4, mh_w5, mh_w6, mh_w7, mh_w8, mh_w9, mh_w10, bs]
  rw [up_n (show 17 ≠ 14 by decide), k1]
  by_cases c : (telT (ia 4) n (ia 0)).1 = 0
  · have hz : okI (telT (ia 4) n (ia 0)).1 = 1 := by unfold okI; rw [if_pos c]
    rw [hz, if_neg one_0, if_pos c, up_n (show 20 ≠ 6 by decide), up_n (show 20 ≠ 15 by decide), up_n (show 20 ≠ 14 by decide), k2]
    by_cases z : (telT (ia 4) n (ia 0)).2.2 = 0
    · rw [z, if_pos (by decide)]
      refine ⟨_, ia2, rfl, ?_, ?_, up_s, d4, Or.inr (Or.inl ⟨c, rfl, k4, ?_, d1⟩)⟩
      · rw [up_n (by decide), up_n (by decide), up_s]
      · rw [up_n (by decide), up_s]
      · rw [up_n (by decide), up_n (by decide), up_n (by decide)]; exact q4
    · rw [if_neg (by rw [show (0 : Int32) = nI 0 from rfl, nI_leI (by omega) (by omega)]; omega)]
      obtain ⟨iv3, c3, b1, b2, b3, b4⟩ := m_keeps2 (mo := mo) (iv := va_up (va_up (va_up iv2 14 0) 15 (telT (ia 4) n (ia 0)).1) 6 0) (ia := ia2) (la := la) (g := g) (n := k) (by rw [up_n (by decide), up_n (by decide), up_n (by decide)]; exact q4) h12
      rw [b1, bs, mh_g20, bs, b4 20 (by decide), up_n (by decide), up_n (by decide), up_n (by decide), k2]
      refine ⟨iv3, _, rfl, ?_, ?_, ?_, ?_, Or.inl ⟨c, by omega, ?_, b3, ?_⟩⟩
      · rw [b4 14 (by decide), up_n (by decide), up_n (by decide), up_s]
      · rw [b4 15 (by decide), up_n (by decide), up_s]
      · rw [b4 6 (by decide), up_s]
      · rw [up_n (by decide)]; exact d4
      · rw [up_n (by decide)]; exact k4
      · rw [up_s]
        refine ⟨fun i hi j hj => ?_, fun j hj => ?_⟩
        · rw [b2.1 i hi j hj, d1]
        · rw [b2.2 j hj, d2, a2 j hj]
  · have hz : okI (telT (ia 4) n (ia 0)).1 = 0 := okI_0.mpr c
    rw [hz, if_pos rfl, if_neg c]
    obtain ⟨c3, b1, b2⟩ := m_tell122 (mo := mo) (iv := va_up (va_up (va_up iv2 14 0) 15 (telT (ia 4) n (ia 0)).1) 6 0) (ia := ia2) (la := la) (g := g) pz_F 0 (ia2 0) (by omega) (by unfold pz_F; omega) (fun j hj => by omega)
    rw [up_id] at b1
    refine ⟨_, _, b1, ?_, ?_, up_s, ?_, Or.inr (Or.inr ⟨c, fun j hj => ?_, ?_, ?_⟩)⟩
    · rw [up_n (by decide), up_n (by decide), up_s]
    · rw [up_n (by decide), up_s]
    · rw [up_n (by decide)]; exact d4
    · rw [up_s, b2 j hj, d2, a2 j hj]
    · rw [up_n (by decide), up_n (by decide), up_n (by decide)]; exact q4
    · rw [up_n (by decide)]; exact d1
/-- four signs of an int -/
def byI (v s : Int32) : Int32 := (v >>> (s &&& 31)) &&& 255
def fdT (tp : Nat → Int32) (n : Nat) (v : Int32) : Nat → Int32 := upd (upd (upd (upd tp n (byI v 24)) (n + 1) (byI v 16)) (n + 2) (byI v 8)) (n + 3) (byI v 0)
theorem m_four {n : Nat} {v : Int32} (hn : iv 14 = nI n) (h4 : n + 4 ≤ 400) : ∃ iv', fnX10_four (MH mo iv ia la g) mo v = some (MH mo iv' (va_up ia 4 (fdT (ia 4) n v)) la g) ∧ iv' 14 = nI (n + 4) ∧ ∀ q, q ≠ 14 → iv' q = iv q := by
  unfold fnX10_four
  simp only [mh_is, mh_g0, mh_g4, mh_g6, mh_g12, mh_g14, mh_g15, mh_g16, mh_g17, mh_g18, mh_g19, mh_g20, mh_r1, mh_r2, mh_r3, mh_r5, mh_r7, mh_r8, mh_r9, mh_r10, mh_r11, mh_r13, mh_r21, mh_s0, mh_s4, mh_s6, mh_s12, mh_s14, mh_s15, mh_s16, mh_s17, mh_s18, mh_s19, mh_s20, mh_w0, mh_w1, mh_w2, mh_w3, mh_w4, mh_w5, mh_w6, mh_w7, mh_w8, mh_w9, mh_w10, bs]
  show ∃ iv', fX10_four_3b _ _ _ v 24 = _ ∧ _
  unfold fX10_four_3b
  rw [if_neg (by decide)]
  simp only [mh_is, mh_g0, mh_g4, mh_g6, mh_g12, mh_g14, mh_g15, mh_g16, mh_g17, mh_g18, mh_g19, mh_g20, mh_r1, mh_r2, mh_r3, mh_r5, mh_r7, mh_r8, mh_r9, mh_r10, mh_r11, mh_r13, mh_r21, mh_s0, mh_s4, mh_s6, mh_s12, mh_s14, mh_s15, mh_s16, mh_s17, mh_s18, mh_s19, mh_s20, mh_w0, mh_w1, mh_w2, mh_w3, mh_w4, mh_w5, mh_w6, mh_w7, mh_w8, mh_w9, mh_w10, bs]
  rw [hn, mh_t4 rfl (by omega), bs, mh_g14, bs, hn, nI_1, mh_s14, bs]
  show ∃ iv', fX10_four_3b _ _ _ v 16 = _ ∧ _
  unfold fX10_four_3b
  rw [if_neg (by decide)]
  simp only [mh_is, mh_g0, mh_g4, mh_g6, mh_g12, mh_g14, mh_g15, mh_g16, mh_g17, mh_g18, mh_g19, mh_g20, mh_r1, mh_r2, mh_r3, mh_r5, mh_r7, mh_r8, mh_r9, mh_r10, mh_r11, mh_r13, mh_r21, mh_s0, mh_s4, mh_s6, mh_s12, mh_s14, mh_s15, mh_s16, mh_s17, mh_s18, mh_s19, mh_s20, mh_w0, mh_w1, mh_w2, mh_w3, mh_w4, mh_w5, mh_w6, mh_w7, mh_w8, mh_w9, mh_w10, bs, up_s]
  rw [mh_t4 (k := n + 1) rfl (by omega)]
  simp only [bs, mh_g14, mh_s14, up_s, up_up, nI_1]
  show ∃ iv', fX10_four_3b _ _ _ v 8 = _ ∧ _
  unfold fX10_four_3b
  rw [if_neg (by decide)]
  simp only [mh_is, mh_g0, mh_g4, mh_g6, mh_g12, mh_g14, mh_g15, mh_g16, mh_g17, mh_g18, mh_g19, mh_g20, mh_r1, mh_r2, mh_r3, mh_r5, mh_r7, mh_r8, mh_r9, mh_r10, mh_r11, mh_r13, mh_r21, mh_s0, mh_s4, mh_s6, mh_s12, mh_s14, mh_s15, mh_s16, mh_s17, mh_s18, mh_s19, mh_s20, mh_w0, mh_w1, mh_w2, mh_w3, mh_w4, mh_w5, mh_w6, mh_w7, mh_w8, mh_w9, mh_w10, bs, up_s]
  rw [mh_t4 (k := n + 1 + 1) rfl (by omega)]
  simp only [bs, mh_g14, mh_s14, up_s, up_up, nI_1]
  show ∃ iv', fX10_four_3b _ _ _ v 0 = _ ∧ _
  unfold fX10_four_3b
  rw [if_neg (by decide)]
  simp only [mh_is, mh_g0, mh_g4, mh_g6, mh_g12, mh_g14, mh_g15, mh_g16, mh_g17, mh_g18, mh_g19, mh_g20, mh_r1, mh_r2, mh_r3, mh_r5, mh_r7, mh_r8, mh_r9, mh_r10, mh_r11, mh_r13, mh_r21, mh_s0, mh_s4, mh_s6, mh_s12, mh_s14, mh_s15, mh_s16, mh_s17, mh_s18, mh_s19, mh_s20, mh_w0, mh_w1, mh_w2, mh_w3, mh_w4, mh_w5, mh_w6, mh_w7, mh_w8, mh_w9, mh_w10, bs, up_s]
  rw [mh_t4 (k := n + 1 + 1 + 1) rfl (by omega)]
  simp only [bs, mh_g14, mh_s14, up_s, up_up, nI_1]
  show ∃ iv', fX10_four_3b _ _ _ v (-8) = _ ∧ _
  unfold fX10_four_3b
  rw [if_pos (by decide)]
  exact ⟨_, rfl, up_s, fun q hq => up_n hq⟩
def fd5 (tp : Nat → Int32) (n : Nat) (a b c d e : Int32) : Nat → Int32 := fdT (fdT (fdT (fdT (fdT tp n a) (n + 4) b) (n + 8) c) (n + 12) d) (n + 16) e
theorem m_feed {n : Nat} (hn : iv 14 = nI n) (h4 : n ≤ 400) (a b c d e : Int32) : (n + 20 ≤ 400 ∧ ∃ iv', fnX10_feed (MH mo iv ia la g) mo a b c d e = some (nI (n + 20), MH mo iv' (va_up ia 4 (fd5 (ia 4) n a b c d e)) la g) ∧ iv' 14 = nI (n + 20) ∧ ∀ q, q ≠ 0 → q ≠ 14 → iv' q = iv q) ∨ (400 < n + 20 ∧ fnX10_feed (MH mo iv ia la g) mo a b c d e = some (-1, MH mo (va_up iv 0 0) ia la g)) := by
  unfold fnX10_feed
  simp only [mh_is, mh_g0, mh_g4, mh_g6, mh_g12, mh_g14, mh_g15, mh_g16, mh_g17, mh_g18, mh_g19, mh_g20, mh_r1, mh_r2, mh_r3, mh_r5, mh_r7, mh_r8, mh_r9, mh_r10, mh_r11, mh_r13, mh_r21, mh_s0, mh_s4, mh_s6, mh_s12, mh_s14, mh_s15, mh_s16, mh_s17, mh_s18, mh_s19, mh_s20, mh_w0, mh_w1, mh_w2, mh_w3, mh_w4, mh_w5, mh_w6, mh_w7, mh_w8, mh_w9, mh_w10, bs]
  rw [up_n (by decide), hn, show (20 : Int32) = nI 20 from rfl, nI_add, show (400 : Int32) = nI 400 from rfl]
  by_cases q : n + 20 ≤ 400
  · left
    rw [if_pos (by rw [nI_leI (by omega) (by omega)]; exact q)]
    refine ⟨q, ?_⟩
    obtain ⟨iv1, e1, f1, g1⟩ := m_four (mo := mo) (iv := va_up iv 0 0) (ia := ia) (la := la) (g := g) (v := a) (n := n) (by rw [up_n (by decide)]; exact hn) (by omega)
    rw [e1, bs]
    obtain ⟨iv2, e2, f2, g2⟩ := m_four (mo := mo) (iv := iv1) (ia := va_up ia 4 (fdT (ia 4) n a)) (la := la) (g := g) (v := b) f1 (by omega)
    rw [e2, bs, up_s, up_up]
    obtain ⟨iv3, e3, f3, g3⟩ := m_four (mo := mo) (iv := iv2) (ia := va_up ia 4 (fdT (fdT (ia 4) n a) (n + 4) b)) (la := la) (g := g) (v := c) f2 (by omega)
    rw [e3, bs, up_s, up_up]
    obtain ⟨iv4, e4, f4, g4⟩ := m_four (mo := mo) (iv := iv3) (ia := va_up ia 4 (fdT (fdT (fdT (ia 4) n a) (n + 4) b) (n + 4 + 4) c)) (la := la) (g := g) (v := d) f3 (by omega)
    rw [e4, bs, up_s, up_up]
    obtain ⟨iv5, e5, f5, g5⟩ := m_four (mo := mo) (iv := iv4) (ia := va_up ia 4 (fdT (fdT (fdT (fdT (ia 4) n a) (n + 4) b) (n + 4 + 4) c) (n + 4 + 4 + 4) d)) (la := la) (g := g) (v := e) f4 (by omega)
    rw [e5, bs, up_s, up_up, mh_g14, bs, f5]
    exact ⟨iv5, rfl, f5, fun k h0 h14 => by rw [g5 k h14, g4 k h14, g3 k h14, g2 k h14, g1 k h14, up_n h0]⟩
  · right
    rw [if_neg (by rw [nI_leI (by omega) (by omega)]; exact q)]
    exact ⟨by omega, rfl⟩
end MS
