/-! ===== the reference's text: signs, numbers, words ===== -/
theorem nI_sub {a b : Nat} (h : b ≤ a) : nI a - nI b = nI (a - b) := by
  have : a = (a - b) + b := by omega
  conv => lhs; rw [this, ← nI_add]
  exact Int32.add_sub_cancel _ _
/-- the first sign from i on that is no blank, of r signs -/
def skp (tp : Nat → Int32) : Nat → Nat → Nat
  | 0, i => i
  | r + 1, i => if tp i = 32 then skp tp r (i + 1) else if tp i = 10 then skp tp r (i + 1) else i
theorem skp_le (tp : Nat → Int32) : ∀ r i, i ≤ skp tp r i ∧ skp tp r i ≤ i + r
  | 0, i => ⟨Nat.le_refl _, Nat.le_refl _⟩
  | r + 1, i => by
    have h := skp_le tp r (i + 1)
    unfold skp
    by_cases c : tp i = 32
    · rw [if_pos c]; omega
    · rw [if_neg c]
      by_cases d : tp i = 10
      · rw [if_pos d]; omega
      · rw [if_neg d]; omega
/-- where the next sign stands, and which it is -/
def nxA (tp : Nat → Int32) (n a : Nat) : Nat := skp tp (n - a) a
def hrV (tp : Nat → Int32) (n a : Nat) : Int32 := if a < n then tp a else -1
theorem nxA_le (tp : Nat → Int32) {n a : Nat} (h : a ≤ n) : a ≤ nxA tp n a ∧ nxA tp n a ≤ n := by
  have := skp_le tp (n - a) a
  unfold nxA; omega
/-- where a run of digits, of letters ends -/
def dgR (tp : Nat → Int32) : Nat → Nat → Nat
  | 0, i => i
  | r + 1, i => if inI (tp i) 48 57 = 0 then i else dgR tp r (i + 1)
def ltR (tp : Nat → Int32) : Nat → Nat → Nat
  | 0, i => i
  | r + 1, i => if inI (tp i) 97 122 = 0 then i else ltR tp r (i + 1)
theorem dgR_le (tp : Nat → Int32) : ∀ r i, i ≤ dgR tp r i ∧ dgR tp r i ≤ i + r
  | 0, i => ⟨Nat.le_refl _, Nat.le_refl _⟩
  | r + 1, i => by
    have h := dgR_le tp r (i + 1)
    unfold dgR
    by_cases c : inI (tp i) 48 57 = 0
    · rw [if_pos c]; omega
    · rw [if_neg c]; omega
theorem ltR_le (tp : Nat → Int32) : ∀ r i, i ≤ ltR tp r i ∧ ltR tp r i ≤ i + r
  | 0, i => ⟨Nat.le_refl _, Nat.le_refl _⟩
  | r + 1, i => by
    have h := ltR_le tp r (i + 1)
    unfold ltR
    by_cases c : inI (tp i) 97 122 = 0
    · rw [if_pos c]; omega
    · rw [if_neg c]; omega
/-- the number of a run of digits from pl on -/
def nvR (tp : Nat → Int32) (pl : Nat) : Nat → Nat → Int32 → Int32
  | 0, _, v => v
  | r + 1, i, v => if inI (tp i) 48 57 = 0 then v else nvR tp pl r (i + 1) (if 7 ≤ i - pl then v else 10 * v + tp i - 48)
/-- the word of a run of letters, as the reference counts it -/
def wvR (tp : Nat → Int32) : Nat → Nat → Nat → Int64 → Int64
  | 0, _, _, v => v
  | r + 1, i, c, v => if inI (tp i) 97 122 = 0 then v else wvR tp r (i + 1) (c + 1) (if 8 ≤ c then -1 else v * 27 + (tp i).toInt64 - 96)
def flt (k : Int32) (a : Nat) : Int32 := k + 8 * nI a
def nmC (pl e : Nat) (v lo hi : Int32) : Int32 := if 7 < e - pl then flt 1 pl else if inI v lo hi = 0 then flt 2 pl else 0
/-- a number that is read from a on: the fault, where it ends, which -/
def nmF (tp : Nat → Int32) (n a : Nat) (lo hi : Int32) : Int32 × Nat × Int32 :=
  if inI (hrV tp n (nxA tp n a)) 48 57 = 0 then (flt 1 (nxA tp n a), nxA tp n a, 0)
  else (nmC (nxA tp n a) (dgR tp (n - nxA tp n a) (nxA tp n a)) (nvR tp (nxA tp n a) (n - nxA tp n a) (nxA tp n a) 0) lo hi, dgR tp (n - nxA tp n a) (nxA tp n a), nvR tp (nxA tp n a) (n - nxA tp n a) (nxA tp n a) 0)
def enF (tp : Nat → Int32) (n a : Nat) : Int32 × Nat × Int32 := if hrV tp n (nxA tp n a) = 59 then (0, nxA tp n a + 1, 0) else (flt 1 (nxA tp n a), nxA tp n a, 0)
theorem flt_ne {k a : Nat} (hk : 1 ≤ k) (hk2 : k < 8) (ha : a ≤ 400) : ¬ flt (nI k) a = 0 := by
  unfold flt
  rw [show (8 : Int32) = nI 8 from rfl, pk_mul, nI_add, i32_eq, nI_toInt (by omega), z32]; omega
theorem hrV_lt {tp : Nat → Int32} {n a : Nat} {lo hi : Int32} (hlo : 0 ≤ lo.toInt) (h : ¬ inI (hrV tp n a) lo hi = 0) : a < n := by
  unfold hrV at h
  by_cases c : a < n
  · exact c
  · rw [if_neg c] at h
    exfalso; apply h; rw [inI_0, i32_lt]; left
    show (-1 : Int) < _; omega
theorem nmF_le {tp : Nat → Int32} {n a : Nat} {lo hi : Int32} (h : a ≤ n) : (nmF tp n a lo hi).2.1 ≤ n := by
  have h1 := nxA_le tp h
  have h2 := dgR_le tp (n - nxA tp n a) (nxA tp n a)
  unfold nmF
  by_cases c : inI (hrV tp n (nxA tp n a)) 48 57 = 0
  · rw [if_pos c]; exact h1.2
  · rw [if_neg c]; show dgR _ _ _ ≤ n; omega
theorem enF_le {tp : Nat → Int32} {n a : Nat} (h : a ≤ n) : (enF tp n a).2.1 ≤ n := by
  have h1 := nxA_le tp h
  unfold enF
  by_cases c : hrV tp n (nxA tp n a) = 59
  · rw [if_pos c]
    have : nxA tp n a < n := by
      unfold hrV at c
      by_cases d : nxA tp n a < n
      · exact d
      · rw [if_neg d] at c; exact absurd c (by decide)
    exact this
  · rw [if_neg c]; exact h1.2
theorem nmF_v {tp : Nat → Int32} {n a : Nat} {lo hi : Int32} (ha : a ≤ n) (hn : n ≤ 400) (h : (nmF tp n a lo hi).1 = 0) : ¬ inI (nmF tp n a lo hi).2.2 lo hi = 0 := by
  have h1 := nxA_le tp ha
  unfold nmF at h ⊢
  by_cases c : inI (hrV tp n (nxA tp n a)) 48 57 = 0
  · rw [if_pos c] at h; exact absurd h (flt_ne (k := 1) (by omega) (by omega) (by omega))
  · rw [if_neg c] at h ⊢
    have h : nmC _ _ _ lo hi = 0 := h
    show ¬ inI (nvR _ _ _ _ _) lo hi = 0
    unfold nmC at h
    by_cases d : 7 < dgR tp (n - nxA tp n a) (nxA tp n a) - nxA tp n a
    · rw [if_pos d] at h; exact absurd h (flt_ne (k := 1) (by omega) (by omega) (by omega))
    · rw [if_neg d] at h
      intro z; rw [if_pos z] at h; exact absurd h (flt_ne (k := 2) (by omega) (by omega) (by omega))
def okI (c : Int32) : Int32 := if c = 0 then 1 else 0
/-- what reading changes: where it is, the fault, scratch -/
def RdR (iv iv' : Nat → Int32) (c : Int32) (e : Nat) : Prop := iv' 16 = nI e ∧ (c = 0 → iv' 17 = iv 17) ∧ (¬ c = 0 → iv' 17 = c) ∧ ∀ q, q < 16 ∨ 19 < q → iv' q = iv q
section MM
variable {mo : Nat} {iv : Nat → Int32} {ia : Nat → Nat → Int32} {la : Nat → Nat → Int64} {g : pz_H}
theorem m_here_loop {n : Nat} (hn : iv 14 = nI n) (h4 : n ≤ 400) : ∀ (N r a : Nat), a + r = n → r < N → fX10_here_0 N (MH mo (va_up iv 16 (nI a)) ia la g) mo = some (hrV (ia 4) n (skp (ia 4) r a), MH mo (va_up iv 16 (nI (skp (ia 4) r a))) ia la g) := by
  intro N
  have u14 : ∀ x, va_up iv 16 x 14 = iv 14 := fun x => up_n (by decide)
  have h52 : ∀ a, a ≤ n → fX10_here_52 (MH mo (va_up iv 16 (nI a)) ia la g) mo = some (hrV (ia 4) n a, MH mo (va_up iv 16 (nI a)) ia la g) := by
    intro a ha
    unfold fX10_here_52 fX10_here_76 hrV
    simp only [mh_is, mh_g0, mh_g4, mh_g6, mh_g12, mh_g14, mh_g15, mh_g16, mh_g17, mh_g18, mh_g19, mh_g20, mh_r1, mh_r2, mh_r3, mh_r5, mh_r7, mh_r8, mh_r9, mh_r10, mh_r11, mh_r13, mh_r21, mh_s0, mh_s4, mh_s6, mh_s12, mh_s14, mh_s15, mh_s16, mh_s17, mh_s18, mh_s19, mh_s20, mh_w0, mh_w1, mh_w2, mh_w3, mh_w4, mh_w5, mh_w6, mh_w7, mh_w8, mh_w9, mh_w10, bs, up_s, u14]
    rw [hn]
    by_cases c : a < n
    · rw [if_neg (by rw [nI_leI (by omega) (by omega)]; omega), if_pos c, mh_i4 rfl (by omega), bs]
    · rw [if_pos (by rw [nI_leI (by omega) (by omega)]; omega), if_neg c]
  induction N with
  | zero => intro r a _ h; omega
  | succ N ih =>
    intro r a har hN
    show fX10_here_0b _ _ _ = _
    unfold fX10_here_0b fX10_here_39
    simp only [mh_is, mh_g0, mh_g4, mh_g6, mh_g12, mh_g14, mh_g15, mh_g16, mh_g17, mh_g18, mh_g19, mh_g20, mh_r1, mh_r2, mh_r3, mh_r5, mh_r7, mh_r8, mh_r9, mh_r10, mh_r11, mh_r13, mh_r21, mh_s0, mh_s4, mh_s6, mh_s12, mh_s14, mh_s15, mh_s16, mh_s17, mh_s18, mh_s19, mh_s20, mh_w0, mh_w1, mh_w2, mh_w3, mh_w4, mh_w5, mh_w6, mh_w7, mh_w8, mh_w9, mh_w10, bs, up_s, u14, up_up]
    rw [hn]
    cases r with
    | zero =>
      rw [if_pos (by rw [nI_leI (by omega) (by omega)]; omega), h52 a (by omega)]; rfl
    | succ r =>
      rw [if_neg (by rw [nI_leI (by omega) (by omega)]; omega)]
      simp only [mh_i4 (k := a) rfl (show a < 400 by omega), bs, nI_1]
      unfold skp
      by_cases c : ia 4 a = 32
      · simp only [c, ↓reduceIte]; exact ih r (a + 1) (by omega) (by omega)
      · simp only [c, ↓reduceIte]
        by_cases d : ia 4 a = 10
        · simp only [d, ↓reduceIte]; exact ih r (a + 1) (by omega) (by omega)
        · simp only [d, ↓reduceIte]; exact h52 a (by omega)
theorem m_here {n a : Nat} (hn : iv 14 = nI n) (h4 : n ≤ 400) (ha : iv 16 = nI a) (han : a ≤ n) : fnX10_here (MH mo iv ia la g) mo = some (hrV (ia 4) n (nxA (ia 4) n a), MH mo (va_up iv 16 (nI (nxA (ia 4) n a))) ia la g) := by
  unfold fnX10_here
  simp only [mh_is, mh_g0, mh_g4, mh_g6, mh_g12, mh_g14, mh_g15, mh_g16, mh_g17, mh_g18, mh_g19, mh_g20, mh_r1, mh_r2, mh_r3, mh_r5, mh_r7, mh_r8, mh_r9, mh_r10, mh_r11, mh_r13, mh_r21, mh_s0, mh_s4, mh_s6, mh_s12, mh_s14, mh_s15, mh_s16, mh_s17, mh_s18, mh_s19, mh_s20, mh_w0, mh_w1, mh_w2, mh_w3, mh_w4, mh_w5, mh_w6, mh_w7, mh_w8, mh_w9, mh_w10, bs]
  have h := m_here_loop (mo := mo) (ia := ia) (la := la) (g := g) hn h4 pz_F (n - a) a (by omega) (by unfold pz_F; omega)
  rw [← ha, up_id] at h
  exact h
theorem m_fails (k p : Int32) : fnX10_fails (MH mo iv ia la g) mo k p = some (0, MH mo (va_up iv 17 (k + 8 * p)) ia la g) := by
  unfold fnX10_fails
  simp only [mh_is, mh_g0, mh_g4, mh_g6, mh_g12, mh_g14, mh_g15, mh_g16, mh_g17, mh_g18, mh_g19, mh_g20, mh_r1, mh_r2, mh_r3, mh_r5, mh_r7, mh_r8, mh_r9, mh_r10, mh_r11, mh_r13, mh_r21, mh_s0, mh_s4, mh_s6, mh_s12, mh_s14, mh_s15, mh_s16, mh_s17, mh_s18, mh_s19, mh_s20, mh_w0, mh_w1, mh_w2, mh_w3, mh_w4, mh_w5, mh_w6, mh_w7, mh_w8, mh_w9, mh_w10, bs, pb0]
theorem m_num_end {n pl i k : Nat} {lo hi : Int32} (h4 : n ≤ 400) (hi2 : i ≤ n) (hpl : pl ≤ i) (hk : k < 4) (h16 : iv 16 = nI i) (h19 : iv 19 = nI pl) : ∃ iv' t', fX10_number_125 (MH mo iv ia la g) mo (nI k) lo hi = some (okI (nmC pl i (iv 18) lo hi), MH mo iv' (va_up ia 5 t') la g) ∧ RdR iv iv' (nmC pl i (iv 18) lo hi) i ∧ (nmC pl i (iv 18) lo hi = 0 → t' = upd (ia 5) k (iv 18)) := by
  unfold fX10_number_125 fX10_number_183 fX10_number_188 nmC
  simp only [mh_is, mh_g0, mh_g4, mh_g6, mh_g12, mh_g14, mh_g15, mh_g16, mh_g17, mh_g18, mh_g19, mh_g20, mh_r1, mh_r2, mh_r3, mh_r5, mh_r7, mh_r8, mh_r9, mh_r10, mh_r11, mh_r13, mh_r21, mh_s0, mh_s4, mh_s6, mh_s12, mh_s14, mh_s15, mh_s16, mh_s17, mh_s18, mh_s19, mh_s20, mh_w0, mh_w1, mh_w2, mh_w3, mh_w4, mh_w5, mh_w6, mh_w7, mh_w8, mh_w9, mh_w10, bs, m_in, m_fails, pb0, pb1]
  rw [h16, h19, nI_sub hpl]
  by_cases c : 7 < i - pl
  · rw [if_neg (by rw [show (7 : Int32) = nI 7 from rfl, nI_leI (by omega) (by omega)]; omega), if_pos c]
    have hz : ¬ flt 1 pl = 0 := flt_ne (k := 1) (by omega) (by omega) (by omega)
    refine ⟨va_up iv 17 (flt 1 pl), ia 5, by rw [up_id]; unfold okI; rw [if_neg hz]; rfl, ⟨?_, fun z => absurd z hz, fun _ => up_s, ?_⟩, fun z => absurd z hz⟩
    · rw [up_n (by decide)]; exact h16
    · intro q hq; rw [up_n (by omega)]
  · rw [if_pos (by rw [show (7 : Int32) = nI 7 from rfl, nI_leI (by omega) (by omega)]; omega), if_neg c]
    rw [mh_t5 rfl (by omega), bs]
    simp only [mh_g18, mh_g19, bs, m_fails]
    by_cases d : inI (iv 18) lo hi = 0
    · simp only [d, ↓reduceIte]
      have hz : ¬ flt 2 pl = 0 := flt_ne (k := 2) (by omega) (by omega) (by omega)
      refine ⟨_, _, by unfold okI; rw [if_neg hz], ⟨?_, fun z => absurd z hz, fun _ => ?_, ?_⟩, fun z => absurd z hz⟩
      · rw [up_n (by decide)]; exact h16
      · rw [up_s, h19]; rfl
      · intro q hq; rw [up_n (by omega)]
    · simp only [d, ↓reduceIte]
      exact ⟨iv, _, rfl, ⟨h16, fun _ => rfl, fun z => absurd rfl z, fun _ _ => rfl⟩, fun _ => rfl⟩
theorem m_num_loop {n pl k : Nat} {lo hi : Int32} (h4 : n ≤ 400) (hk : k < 4) : ∀ (N r i : Nat) (iv : Nat → Int32), i + r = n → r < N → pl ≤ i → iv 14 = nI n → iv 16 = nI i → iv 19 = nI pl → ∃ iv' t', fX10_number_37 N (MH mo iv ia la g) mo (nI k) lo hi = some (okI (nmC pl (dgR (ia 4) r i) (nvR (ia 4) pl r i (iv 18)) lo hi), MH mo iv' (va_up ia 5 t') la g) ∧ RdR iv iv' (nmC pl (dgR (ia 4) r i) (nvR (ia 4) pl r i (iv 18)) lo hi) (dgR (ia 4) r i) ∧ (nmC pl (dgR (ia 4) r i) (nvR (ia 4) pl r i (iv 18)) lo hi = 0 → t' = upd (ia 5) k (nvR (ia 4) pl r i (iv 18))) := by
  intro N
  induction N with
  | zero => intro r i _ _ h; omega
  | succ N ih =>
    intro r i iv hir hN hpl h14 h16 h19
    show ∃ iv' t', fX10_number_37b _ _ _ _ _ _ = _ ∧ _
    unfold fX10_number_37b fX10_number_109
    simp only [mh_is, mh_g0, mh_g4, mh_g6, mh_g12, mh_g14, mh_g15, mh_g16, mh_g17, mh_g18, mh_g19, mh_g20, mh_r1, mh_r2, mh_r3, mh_r5, mh_r7, mh_r8, mh_r9, mh_r10, mh_r11, mh_r13, mh_r21, mh_s0, mh_s4, mh_s6, mh_s12, mh_s14, mh_s15, mh_s16, mh_s17, mh_s18, mh_s19, mh_s20, mh_w0, mh_w1, mh_w2, mh_w3, mh_w4, mh_w5, mh_w6, mh_w7, mh_w8, mh_w9, mh_w10, bs, m_in]
    rw [h14, h16]
    cases r with
    | zero =>
      rw [if_pos (by rw [nI_leI (by omega) (by omega)]; omega)]
      exact m_num_end (n := n) (i := i) h4 (by omega) hpl hk h16 h19
    | succ r =>
      rw [if_neg (by rw [nI_leI (by omega) (by omega)]; omega)]
      simp only [mh_i4 (k := i) rfl (show i < 400 by omega), bs]
      unfold dgR nvR
      by_cases c : inI (ia 4 i) 48 57 = 0
      · simp only [c, ↓reduceIte]
        exact m_num_end (n := n) (i := i) h4 (by omega) hpl hk h16 h19
      · simp only [c, ↓reduceIte]
        rw [h19, nI_sub hpl]
        have go : ∀ v, ∃ iv' t', fX10_number_37 N (MH mo (va_up (va_up iv 18 v) 16 (va_up iv 18 v 16 + 1)) ia la g) mo (nI k) lo hi = some (okI (nmC pl (dgR (ia 4) r (i + 1)) (nvR (ia 4) pl r (i + 1) v) lo hi), MH mo iv' (va_up ia 5 t') la g) ∧ RdR iv iv' (nmC pl (dgR (ia 4) r (i + 1)) (nvR (ia 4) pl r (i + 1) v) lo hi) (dgR (ia 4) r (i + 1)) ∧ (nmC pl (dgR (ia 4) r (i + 1)) (nvR (ia 4) pl r (i + 1) v) lo hi = 0 → t' = upd (ia 5) k (nvR (ia 4) pl r (i + 1) v)) := by
          intro v
          obtain ⟨iv1, t1, a1, ⟨b1, b2, b3, b4⟩, a3⟩ := ih r (i + 1) (va_up (va_up iv 18 v) 16 (nI (i + 1))) (by omega) (by omega) (by omega) (by rw [up_n (by decide), up_n (by decide)]; exact h14) up_s (by rw [up_n (by decide), up_n (by decide)]; exact h19)
          have e18 : va_up (va_up iv 18 v) 16 (nI (i + 1)) 18 = v := by rw [up_n (by decide), up_s]
          rw [e18] at a1 b2 b3 a3
          rw [up_n (show 16 ≠ 18 by decide), h16, nI_1]
          refine ⟨iv1, t1, a1, ⟨b1, fun z => ?_, b3, fun q hq => ?_⟩, a3⟩
          · rw [b2 z, up_n (by decide), up_n (by decide)]
          · rw [b4 q hq, up_n (by omega), up_n (by omega)]
        by_cases d : 7 ≤ i - pl
        · rw [if_pos (by rw [show (7 : Int32) = nI 7 from rfl, nI_leI (by omega) (by omega)]; omega)]
          simp only [d, ↓reduceIte, mh_s18, bs]
          exact go (iv 18)
        · rw [if_neg (by rw [show (7 : Int32) = nI 7 from rfl, nI_leI (by omega) (by omega)]; omega)]
          simp only [d, ↓reduceIte, mh_s18, bs]
          exact go _
theorem m_number {n a k : Nat} {p lo hi : Int32} (hn : iv 14 = nI n) (h4 : n ≤ 400) (ha : iv 16 = nI a) (han : a ≤ n) (hp : p = nI k) (hk : k < 4) : ∃ iv' t', fnX10_number (MH mo iv ia la g) mo p lo hi = some (okI (nmF (ia 4) n a lo hi).1, MH mo iv' (va_up ia 5 t') la g) ∧ RdR iv iv' (nmF (ia 4) n a lo hi).1 (nmF (ia 4) n a lo hi).2.1 ∧ ((nmF (ia 4) n a lo hi).1 = 0 → t' = upd (ia 5) k (nmF (ia 4) n a lo hi).2.2) := by
  subst hp
  have h1 := nxA_le (ia 4) han
  unfold fnX10_number nmF
  simp only [mh_is, mh_g0, mh_g4, mh_g6, mh_g12, mh_g14, mh_g15, mh_g16, mh_g17, mh_g18, mh_g19, mh_g20, mh_r1, mh_r2, mh_r3, mh_r5, mh_r7, mh_r8, mh_r9, mh_r10, mh_r11, mh_r13, mh_r21, mh_s0, mh_s4, mh_s6, mh_s12, mh_s14, mh_s15, mh_s16, mh_s17, mh_s18, mh_s19, mh_s20, mh_w0, mh_w1, mh_w2, mh_w3, mh_w4, mh_w5, mh_w6, mh_w7, mh_w8, mh_w9, mh_w10, bs, m_here hn h4 ha han, m_in, m_fails, pb0]
  rw [up_s]
  by_cases c : inI (hrV (ia 4) n (nxA (ia 4) n a)) 48 57 = 0
  · simp only [c, ↓reduceIte]
    have hz : ¬ flt 1 (nxA (ia 4) n a) = 0 := flt_ne (k := 1) (by omega) (by omega) (by omega)
    refine ⟨va_up (va_up iv 16 (nI (nxA (ia 4) n a))) 17 (flt 1 (nxA (ia 4) n a)), ia 5, by rw [up_id]; unfold okI; rw [if_neg hz]; rfl, ⟨?_, fun z => absurd z hz, fun _ => up_s, ?_⟩, fun z => absurd z hz⟩
    · rw [up_n (by decide), up_s]
    · intro q hq; rw [up_n (by omega), up_n (by omega)]
  · simp only [c, ↓reduceIte]
    obtain ⟨iv1, t1, a1, ⟨b1, b2, b3, b4⟩, a3⟩ := m_num_loop (mo := mo) (ia := ia) (la := la) (g := g) (pl := nxA (ia 4) n a) (lo := lo) (hi := hi) h4 hk pz_F (n - nxA (ia 4) n a) (nxA (ia 4) n a) (va_up (va_up (va_up iv 16 (nI (nxA (ia 4) n a))) 19 (nI (nxA (ia 4) n a))) 18 0) (by omega) (by unfold pz_F; omega) (Nat.le_refl _) (by rw [up_n (by decide), up_n (by decide), up_n (by decide)]; exact hn) (by rw [up_n (by decide), up_n (by decide), up_s]) (by rw [up_n (by decide), up_s])
    rw [up_s] at a1 b2 b3 a3
    refine ⟨iv1, t1, a1, ⟨b1, fun z => ?_, b3, fun q hq => ?_⟩, a3⟩
    · rw [b2 z, up_n (by decide), up_n (by decide), up_n (by decide)]
    · rw [b4 q hq, up_n (by omega), up_n (by omega), up_n (by omega)]
theorem okI_b (c : Int32) : pz_b (okI c) = some (okI c) := by
  unfold okI; split <;> rfl
theorem okI_0 {c : Int32} : okI c = 0 ↔ ¬ c = 0 := by
  unfold okI; by_cases h : c = 0
  · rw [if_pos h]; exact ⟨fun z => absurd z (by decide), fun z => absurd h z⟩
  · rw [if_neg h]; exact ⟨fun _ => h, fun _ => rfl⟩
theorem m_month {n a k : Nat} {p : Int32} (hn : iv 14 = nI n) (h4 : n ≤ 400) (ha : iv 16 = nI a) (han : a ≤ n) (hp : p = nI k) (hk : k < 4) : ∃ iv' t', fnX10_month (MH mo iv ia la g) mo p = some (okI (nmF (ia 4) n a 0 1799).1, MH mo iv' (va_up ia 5 t') la g) ∧ RdR iv iv' (nmF (ia 4) n a 0 1799).1 (nmF (ia 4) n a 0 1799).2.1 ∧ ((nmF (ia 4) n a 0 1799).1 = 0 → t' = upd (ia 5) k (nmF (ia 4) n a 0 1799).2.2) := by
  obtain ⟨iv1, t1, a1, a2, a3⟩ := m_number (mo := mo) (ia := ia) (la := la) (g := g) (lo := 0) (hi := 1799) hn h4 ha han hp hk
  unfold fnX10_month
  simp only [mh_is, mh_g0, mh_g4, mh_g6, mh_g12, mh_g14, mh_g15, mh_g16, mh_g17, mh_g18, mh_g19, mh_g20, mh_r1, mh_r2, mh_r3, mh_r5, mh_r7, mh_r8, mh_r9, mh_r10, mh_r11, mh_r13, mh_r21, mh_s0, mh_s4, mh_s6, mh_s12, mh_s14, mh_s15, mh_s16, mh_s17, mh_s18, mh_s19, mh_s20, mh_w0, mh_w1, mh_w2, mh_w3, mh_w4, mh_w5, mh_w6, mh_w7, mh_w8, mh_w9, mh_w10, bs, a1, okI_b]
  exact ⟨iv1, t1, rfl, a2, a3⟩
theorem m_ends {n a : Nat} (hn : iv 14 = nI n) (h4 : n ≤ 400) (ha : iv 16 = nI a) (han : a ≤ n) : ∃ iv', fnX10_ends (MH mo iv ia la g) mo = some (okI (enF (ia 4) n a).1, MH mo iv' ia la g) ∧ RdR iv iv' (enF (ia 4) n a).1 (enF (ia 4) n a).2.1 := by
  have h1 := nxA_le (ia 4) han
  unfold fnX10_ends enF
  simp only [mh_is, mh_g0, mh_g4, mh_g6, mh_g12, mh_g14, mh_g15, mh_g16, mh_g17, mh_g18, mh_g19, mh_g20, mh_r1, mh_r2, mh_r3, mh_r5, mh_r7, mh_r8, mh_r9, mh_r10, mh_r11, mh_r13, mh_r21, mh_s0, mh_s4, mh_s6, mh_s12, mh_s14, mh_s15, mh_s16, mh_s17, mh_s18, mh_s19, mh_s20, mh_w0, mh_w1, mh_w2, mh_w3, mh_w4, mh_w5, mh_w6, mh_w7, mh_w8, mh_w9, mh_w10, bs, m_here hn h4 ha han, m_fails, pb0, pb1, up_s]
  by_cases c : hrV (ia 4) n (nxA (ia 4) n a) = 59
  · simp only [c, ↓reduceIte]
    refine ⟨_, rfl, ?_, fun _ => ?_, fun z => absurd rfl z, fun q hq => ?_⟩
    · rw [up_s, nI_1]
    · rw [up_n (by decide), up_n (by decide)]
    · rw [up_n (by omega), up_n (by omega)]
  · simp only [c, ↓reduceIte]
    have hz : ¬ flt 1 (nxA (ia 4) n a) = 0 := flt_ne (k := 1) (by omega) (by omega) (by omega)
    refine ⟨va_up (va_up iv 16 (nI (nxA (ia 4) n a))) 17 (flt 1 (nxA (ia 4) n a)), by unfold okI; rw [if_neg hz]; rfl, ?_, fun z => absurd z hz, fun _ => up_s, ?_⟩
    · rw [up_n (by decide), up_s]
    · intro q hq; rw [up_n (by omega), up_n (by omega)]
theorem m_word_loop {n : Nat} (h4 : n ≤ 400) : ∀ (N r i c : Nat) (v : Int64) (iv : Nat → Int32), i + r = n → r < N → c ≤ i → iv 14 = nI n → iv 16 = nI i → ∃ iv', fX10_readWord_12 N (MH mo iv ia la g) mo v (nI c) = some (wvR (ia 4) r i c v, MH mo iv' ia la g) ∧ iv' 16 = nI (ltR (ia 4) r i) ∧ ∀ q, q ≠ 16 → iv' q = iv q := by
  intro N
  induction N with
  | zero => intro r i c v _ _ h; omega
  | succ N ih =>
    intro r i c v iv hir hN hci h14 h16
    show ∃ iv', fX10_readWord_12b _ _ _ _ _ = _ ∧ _
    unfold fX10_readWord_12b fX10_readWord_74 fX10_readWord_91
    simp only [mh_is, mh_g0, mh_g4, mh_g6, mh_g12, mh_g14, mh_g15, mh_g16, mh_g17, mh_g18, mh_g19, mh_g20, mh_r1, mh_r2, mh_r3, mh_r5, mh_r7, mh_r8, mh_r9, mh_r10, mh_r11, mh_r13, mh_r21, mh_s0, mh_s4, mh_s6, mh_s12, mh_s14, mh_s15, mh_s16, mh_s17, mh_s18, mh_s19, mh_s20, mh_w0, mh_w1, mh_w2, mh_w3, mh_w4, mh_w5, mh_w6, mh_w7, mh_w8, mh_w9, mh_w10, bs, m_in]
    rw [h14, h16]
    cases r with
    | zero =>
      rw [if_pos (by rw [nI_leI (by omega) (by omega)]; omega)]
      exact ⟨iv, rfl, h16, fun _ _ => rfl⟩
    | succ r =>
      rw [if_neg (by rw [nI_leI (by omega) (by omega)]; omega)]
      simp only [mh_i4 (k := i) rfl (show i < 400 by omega), bs]
      unfold ltR wvR
      by_cases d : inI (ia 4 i) 97 122 = 0
      · simp only [d, ↓reduceIte]
        exact ⟨iv, rfl, h16, fun _ _ => rfl⟩
      · simp only [d, ↓reduceIte]
        rw [nI_1, nI_1]
        have go : ∀ v, ∃ iv', fX10_readWord_12 N (MH mo (va_up iv 16 (nI (i + 1))) ia la g) mo v (nI (c + 1)) = some (wvR (ia 4) r (i + 1) (c + 1) v, MH mo iv' ia la g) ∧ iv' 16 = nI (ltR (ia 4) r (i + 1)) ∧ ∀ q, q ≠ 16 → iv' q = iv q := by
          intro v
          obtain ⟨iv1, a1, a2, a3⟩ := ih r (i + 1) (c + 1) v (va_up iv 16 (nI (i + 1))) (by omega) (by omega) (by omega) (by rw [up_n (by decide)]; exact h14) up_s
          exact ⟨iv1, a1, a2, fun q hq => by rw [a3 q hq, up_n hq]⟩
        by_cases e : 8 ≤ c
        · rw [if_pos (by rw [show (8 : Int32) = nI 8 from rfl, nI_leI (by omega) (by omega)]; omega)]
          simp only [e, ↓reduceIte]
          exact go _
        · rw [if_neg (by rw [show (8 : Int32) = nI 8 from rfl, nI_leI (by omega) (by omega)]; omega)]
          simp only [e, ↓reduceIte]
          exact go _
/-- the word from a on, and where it ends -/
def wdV (tp : Nat → Int32) (n a : Nat) : Int64 := wvR tp (n - a) a 0 0
def wdE (tp : Nat → Int32) (n a : Nat) : Nat := ltR tp (n - a) a
theorem m_readWord {n a : Nat} (hn : iv 14 = nI n) (h4 : n ≤ 400) (ha : iv 16 = nI a) (han : a ≤ n) : ∃ iv', fnX10_readWord (MH mo iv ia la g) mo = some (wdV (ia 4) n a, MH mo iv' ia la g) ∧ iv' 16 = nI (wdE (ia 4) n a) ∧ iv' 19 = nI a ∧ ∀ q, q ≠ 16 → q ≠ 19 → iv' q = iv q := by
  unfold fnX10_readWord
  simp only [mh_is, mh_g0, mh_g4, mh_g6, mh_g12, mh_g14, mh_g15, mh_g16, mh_g17, mh_g18, mh_g19, mh_g20, mh_r1, mh_r2, mh_r3, mh_r5, mh_r7, mh_r8, mh_r9, mh_r10, mh_r11, mh_r13, mh_r21, mh_s0, mh_s4, mh_s6, mh_s12, mh_s14, mh_s15, mh_s16, mh_s17, mh_s18, mh_s19, mh_s20, mh_w0, mh_w1, mh_w2, mh_w3, mh_w4, mh_w5, mh_w6, mh_w7, mh_w8, mh_w9, mh_w10, bs]
  rw [ha]
  obtain ⟨iv1, a1, a2, a3⟩ := m_word_loop (mo := mo) (ia := ia) (la := la) (g := g) h4 pz_F (n - a) a 0 0 (va_up iv 19 (nI a)) (by omega) (by unfold pz_F; omega) (by omega) (by rw [up_n (by decide)]; exact hn) (by rw [up_n (by decide)]; exact ha)
  refine ⟨iv1, a1, a2, ?_, fun q h16 h19 => ?_⟩
  · rw [a3 19 (by decide), up_s]
  · rw [a3 q h16, up_n h19]
end MM
