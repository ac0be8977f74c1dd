/-! ===== the reference's public reads: payments ===== -/
def whoI (w : Nat → Int32) (p : Int32) : Int32 := if p = 10 then 1 else inI p 0 (w 4 - 1)
theorem mon_of {q : Int32} (h : ¬ inI q 0 1799 = 0) : q = nI q.toNatClampNeg ∧ q.toNatClampNeg < 1800 := by
  have h2 := (not_congr inI_0).mp h
  have h3 : ¬ q < 0 := fun z => h2 (Or.inl z)
  have h4 : ¬ 1799 < q := fun z => h2 (Or.inr z)
  rw [i32_lt] at h3 h4
  rw [show (0 : Int32).toInt = 0 from rfl] at h3
  rw [show (1799 : Int32).toInt = 1799 from rfl] at h4
  obtain ⟨a, b⟩ := nI_clampI (x := q) (by omega)
  exact ⟨a, by omega⟩
theorem spo_of {w : Nat → Int32} (hv : Vld w) {p : Int32} (h : ¬ inI p 0 (w 4 - 1) = 0) : p = nI p.toNatClampNeg ∧ p.toNatClampNeg < cP w := by
  have h2 := (not_congr inI_0).mp h
  have h3 : ¬ p < 0 := fun z => h2 (Or.inl z)
  have h4 : ¬ w 4 - 1 < p := fun z => h2 (Or.inr z)
  have h5 := hv.1.2.1.2
  have h6 : (w 4).toInt = cP w := by rw [hv.1.2.1.1, nI_toInt (by omega)]
  rw [i32_lt] at h3 h4
  rw [i32_sub (by rw [h6, show (1 : Int32).toInt = 1 from rfl]; omega) (by rw [h6, show (1 : Int32).toInt = 1 from rfl]; omega), h6, show (1 : Int32).toInt = 1 from rfl] at h4
  rw [show (0 : Int32).toInt = 0 from rfl] at h3
  obtain ⟨a, b⟩ := nI_clampI (x := p) (by omega)
  exact ⟨a, by omega⟩
theorem who_of {w : Nat → Int32} (hv : Vld w) {p : Int32} (h : ¬ whoI w p = 0 ∨ p = 11) : p = nI p.toNatClampNeg ∧ isWho w p.toNatClampNeg := by
  rcases h with h | h
  · unfold whoI at h
    by_cases c : p = 10
    · subst c; exact ⟨rfl, Or.inl rfl⟩
    · rw [if_neg c] at h
      obtain ⟨a, b⟩ := spo_of hv h
      exact ⟨a, Or.inr (Or.inr b)⟩
  · subst h; exact ⟨rfl, Or.inr (Or.inl rfl)⟩
/-- a public call: nothing is changed but raised and laid rows -/
def LR (w : Nat → Int32) (iv : Nat → Int32) (iv' : Nat → Int32) (la' : Nat → Nat → Int64) : Prop := (∀ k, k ≠ 0 → k ≠ 6 → iv' k = iv k) ∧ CaOK iv' w la'
theorem ca_up0 {w iv : Nat → Int32} {la : Nat → Nat → Int64} (h : CaOK iv w la) : CaOK (va_up iv 0 0) w la := h
theorem LR.le {w iv iv' : Nat → Int32} {la la' : Nat → Nat → Int64} (h : LE w (va_up iv 0 0) la iv' la') : LR w iv iv' la' := ⟨fun k h0 h6 => by rw [h.1.1 k h6]; unfold va_up; rw [if_neg h0], h.2.2⟩
theorem LR.lo {w iv iv' : Nat → Int32} {la la' : Nat → Nat → Int64} (h : LO w (va_up iv 0 0) la iv' la') : LR w iv iv' la' := ⟨fun k h0 h6 => by rw [h.1.1 k h6]; unfold va_up; rw [if_neg h0], h.2.2⟩
theorem LR.rf {w iv : Nat → Int32} {la : Nat → Nat → Int64} (h : CaOK iv w la) : LR w iv (va_up iv 0 0) la := ⟨fun k h0 h6 => by unfold va_up; rw [if_neg h0], h⟩
theorem LR.po {w iv iv1 iv' : Nat → Int32} {la1 la' : Nat → Nat → Int64} (h : LPo w (va_up iv 0 0) iv1 la1) (h2 : LE w iv1 la1 iv' la') : LR w iv iv' la' := ⟨fun k h0 h6 => by rw [h2.1.1 k h6, h.1 k h6]; unfold va_up; rw [if_neg h0], h2.2.2⟩
theorem LPo.lq {w iv iv' : Nat → Int32} {la' : Nat → Nat → Int64} (h : LPo w iv iv' la') : LQ w iv' la' := h.2
def paidV (w : Nat → Int32) (q p : Int32) : Int64 := if inI q 0 1799 = 0 then -1000000000000000 else if whoI w p = 0 then (if p = 11 then pdW w p.toNatClampNeg q.toNatClampNeg else -1000000000000000) else pdW w p.toNatClampNeg q.toNatClampNeg
section ME
variable {mo : Nat} {iv : Nat → Int32} {ia : Nat → Nat → Int32} {la : Nat → Nat → Int64} {g : pz_H}
theorem m_isWhoI {p : Int32} : fnX10_isWho (MH mo iv ia la g) mo p = some (whoI (ia 0) p) := m_isWho
theorem m_paid (hv : Vld (ia 0)) (hca : CaOK iv (ia 0) la) (q p : Int32) : ∃ iv' la', fnX10_paid (MH mo iv ia la g) mo q p = some (paidV (ia 0) q p, MH mo iv' ia la' g) ∧ LR (ia 0) iv iv' la' := by
  have go : ¬ inI q 0 1799 = 0 → (¬ whoI (ia 0) p = 0 ∨ p = 11) → ∃ iv' la', fX10_paid_30 (MH mo (va_up iv 0 0) ia la g) mo q p = some (pdW (ia 0) p.toNatClampNeg q.toNatClampNeg, MH mo iv' ia la' g) ∧ LR (ia 0) iv iv' la' := by
    intro h1 h2
    obtain ⟨q1, q2⟩ := mon_of h1
    obtain ⟨p1, p2⟩ := who_of hv h2
    obtain ⟨iv1, la1, e1, f1⟩ := m_laysOwns (mo := mo) (g := g) hv (ca_up0 hca)
    obtain ⟨iv2, la2, e2, f2⟩ := m_paidTo (mo := mo) (g := g) hv f1.lq q1 q2 p1 p2
    unfold fX10_paid_30
    simp only [e1, e2, bs]
    exact ⟨iv2, la2, rfl, LR.po f1 f2⟩
  unfold fnX10_paid fX10_paid_26 paidV
  simp only [mh_is, mh_g0, mh_g4, mh_g6, mh_g12, mh_g14, mh_g15, mh_g16, mh_g17, mh_g18, mh_g19, mh_g20, mh_r1, mh_r2, mh_r3, mh_r5, mh_r7, mh_r8, mh_r9, mh_r10, mh_r11, mh_r13, mh_r21, mh_s0, mh_s4, mh_s6, mh_s12, mh_s14, mh_s15, mh_s16, mh_s17, mh_s18, mh_s19, mh_s20, mh_w0, mh_w1, mh_w2, mh_w3, mh_w4, mh_w5, mh_w6, mh_w7, mh_w8, mh_w9, mh_w10, bs, m_isMonth, m_isWhoI]
  by_cases c1 : inI q 0 1799 = 0
  · simp only [c1, ↓reduceIte]; exact ⟨_, la, rfl, LR.rf hca⟩
  simp only [c1, ↓reduceIte]
  by_cases c2 : whoI (ia 0) p = 0
  · simp only [c2, ↓reduceIte]
    by_cases c3 : p = 11
    · have h9 := go c1 (Or.inr c3)
      simp only [c3, ↓reduceIte] at h9 ⊢; exact h9
    · simp only [c3, ↓reduceIte]; exact ⟨_, la, rfl, LR.rf hca⟩
  · simp only [c2, ↓reduceIte]; exact go c1 (Or.inl c2)
def sumV (w : Nat → Int32) (p a b : Int32) : Int64 := if whoI w p = 0 ∧ ¬ p = 11 then -1000000000000000 else if inI a 0 1799 = 0 then -1000000000000000 else if inI b 0 1799 = 0 then -1000000000000000 else if a ≤ b then smA (pdW w p.toNatClampNeg) a.toNatClampNeg (b.toNatClampNeg - a.toNatClampNeg) else -1000000000000000
theorem m_sum (hv : Vld (ia 0)) (hca : CaOK iv (ia 0) la) (p a b : Int32) : ∃ iv' la', fnX10_sum (MH mo iv ia la g) mo p a b = some (sumV (ia 0) p a b, MH mo iv' ia la' g) ∧ LR (ia 0) iv iv' la' := by
  have go : (¬ whoI (ia 0) p = 0 ∨ p = 11) → ∃ iv' la', fX10_sum_19 (MH mo (va_up iv 0 0) ia la g) mo p a b = some (if inI a 0 1799 = 0 then -1000000000000000 else if inI b 0 1799 = 0 then -1000000000000000 else if a ≤ b then smA (pdW (ia 0) p.toNatClampNeg) a.toNatClampNeg (b.toNatClampNeg - a.toNatClampNeg) else -1000000000000000, MH mo iv' ia la' g) ∧ LR (ia 0) iv iv' la' := by
    intro h2
    obtain ⟨p1, p2⟩ := who_of hv h2
    unfold fX10_sum_19 fX10_sum_38
    simp only [m_isMonth, bs]
    by_cases c1 : inI a 0 1799 = 0
    · simp only [c1, ↓reduceIte]; exact ⟨_, la, rfl, LR.rf hca⟩
    simp only [c1, ↓reduceIte]
    by_cases c2 : inI b 0 1799 = 0
    · simp only [c2, ↓reduceIte]; exact ⟨_, la, rfl, LR.rf hca⟩
    simp only [c2, ↓reduceIte]
    by_cases c3 : a ≤ b
    · simp only [c3, ↓reduceIte]
      obtain ⟨a1, a2⟩ := mon_of c1
      obtain ⟨b1, b2⟩ := mon_of c2
      have hab : a.toNatClampNeg ≤ b.toNatClampNeg := by
        rw [a1, b1, nI_leI (by omega) (by omega)] at c3; exact c3
      obtain ⟨iv1, la1, e1, f1⟩ := m_laysOwns (mo := mo) (g := g) hv (ca_up0 hca)
      obtain ⟨iv2, la2, e2, f2⟩ := m_sumOf (mo := mo) (g := g) hv f1.lq p1 p2 a1 b1 hab (by omega)
      simp only [e1, e2, bs]
      exact ⟨iv2, la2, rfl, LR.po f1 f2⟩
    · simp only [c3, ↓reduceIte]; exact ⟨_, la, rfl, LR.rf hca⟩
  unfold fnX10_sum sumV
  simp only [mh_is, mh_g0, mh_g4, mh_g6, mh_g12, mh_g14, mh_g15, mh_g16, mh_g17, mh_g18, mh_g19, mh_g20, mh_r1, mh_r2, mh_r3, mh_r5, mh_r7, mh_r8, mh_r9, mh_r10, mh_r11, mh_r13, mh_r21, mh_s0, mh_s4, mh_s6, mh_s12, mh_s14, mh_s15, mh_s16, mh_s17, mh_s18, mh_s19, mh_s20, mh_w0, mh_w1, mh_w2, mh_w3, mh_w4, mh_w5, mh_w6, mh_w7, mh_w8, mh_w9, mh_w10, bs, m_isWhoI]
  by_cases c2 : whoI (ia 0) p = 0
  · simp only [c2, ↓reduceIte, true_and]
    by_cases c3 : p = 11
    · have := go (Or.inr c3)
      simp only [c3, ↓reduceIte, not_true_eq_false] at this ⊢; exact this
    · simp only [c3, ↓reduceIte, not_false_eq_true]; exact ⟨_, la, rfl, LR.rf hca⟩
  · simp only [c2, ↓reduceIte, false_and]; exact go (Or.inl c2)
/-- who had most: state behind k spouses -/
def rcL (w : Nat → Int32) (m : Nat) : Nat → Int32 × Int64
  | 0 => (10, smA (pdW w 10) 0 m)
  | k + 1 => (if smA (pdW w k) 0 m ≤ (rcL w m k).2 then (rcL w m k).1 else nI k, if smA (pdW w k) 0 m ≤ (rcL w m k).2 then (rcL w m k).2 else smA (pdW w k) 0 m)
def richV (w : Nat → Int32) (q : Int32) : Int32 := if inI q 0 1799 = 0 then -1 else (rcL w q.toNatClampNeg (cP w)).1
theorem m_richest_loop (hv : Vld (ia 0)) {m : Nat} (hm2 : m < 1800) : ∀ (N i : Nat) (iv : Nat → Int32) (la : Nat → Nat → Int64), LQ (ia 0) iv la → i ≤ cP (ia 0) → cP (ia 0) - i < N → ∃ iv' la', fX10_richest_33 N (MH mo iv ia la g) mo (nI m) (rcL (ia 0) m i).1 (rcL (ia 0) m i).2 (nI i) = some ((rcL (ia 0) m (cP (ia 0))).1, MH mo iv' ia la' g) ∧ LE (ia 0) iv la iv' la' := by
  intro N
  have hn := hv.1.2.1.1
  have h4 := hv.1.2.1.2
  induction N with
  | zero => intro i _ _ _ _ h; omega
  | succ N ih =>
    intro i iv la hq hi hN
    show ∃ iv' la', fX10_richest_33b _ _ _ _ _ _ _ = _ ∧ _
    unfold fX10_richest_33b
    rw [mh_r1, bs, mh_w4, bs, hn]
    by_cases h : i = cP (ia 0)
    · rw [← h, if_pos (Int32.le_refl _)]
      exact ⟨iv, la, rfl, LE.rf hq.2⟩
    · have hlt : i < cP (ia 0) := by omega
      rw [if_neg (by rw [nI_leI (by omega) (by omega)]; omega)]
      obtain ⟨iv1, la1, e1, f1⟩ := m_sumOf (mo := mo) (g := g) hv hq (who := i) (p := nI i) rfl (Or.inr (Or.inr hlt)) (a := 0) (b := m) (pa := 0) (pb := nI m) rfl rfl (by omega) (by omega)
      rw [e1, bs]
      dsimp only
      rw [Nat.sub_zero]
      obtain ⟨iv2, la2, e2, f2⟩ := ih (i + 1) iv1 la1 (hq.le f1) (by omega) (by omega)
      refine ⟨iv2, la2, ?_, f1.tr f2⟩
      rw [← e2]
      unfold fX10_richest_67 fX10_richest_81
      rw [nI_1]
      by_cases c : smA (pdW (ia 0) i) 0 m ≤ (rcL (ia 0) m i).2
      · rw [if_pos (lg_le.mpr c), if_pos (lg_le.mpr c), rcL, if_pos c, if_pos c]
      · rw [if_neg (fun q => c (lg_le.mp q)), if_neg (fun q => c (lg_le.mp q)), rcL, if_neg c, if_neg c]
theorem m_richest (hv : Vld (ia 0)) (hca : CaOK iv (ia 0) la) (q : Int32) : ∃ iv' la', fnX10_richest (MH mo iv ia la g) mo q = some (richV (ia 0) q, MH mo iv' ia la' g) ∧ LR (ia 0) iv iv' la' := by
  unfold fnX10_richest richV
  simp only [mh_is, mh_g0, mh_g4, mh_g6, mh_g12, mh_g14, mh_g15, mh_g16, mh_g17, mh_g18, mh_g19, mh_g20, mh_r1, mh_r2, mh_r3, mh_r5, mh_r7, mh_r8, mh_r9, mh_r10, mh_r11, mh_r13, mh_r21, mh_s0, mh_s4, mh_s6, mh_s12, mh_s14, mh_s15, mh_s16, mh_s17, mh_s18, mh_s19, mh_s20, mh_w0, mh_w1, mh_w2, mh_w3, mh_w4, mh_w5, mh_w6, mh_w7, mh_w8, mh_w9, mh_w10, bs, m_isMonth]
  by_cases c1 : inI q 0 1799 = 0
  · simp only [c1, ↓reduceIte]; exact ⟨_, la, rfl, LR.rf hca⟩
  simp only [c1, ↓reduceIte]
  obtain ⟨q1, q2⟩ := mon_of c1
  obtain ⟨iv1, la1, e1, f1⟩ := m_laysOwns (mo := mo) (g := g) hv (ca_up0 hca)
  obtain ⟨iv2, la2, e2, f2⟩ := m_sumOf (mo := mo) (g := g) hv f1.lq (who := 10) (p := 10) rfl (Or.inl rfl) (a := 0) (b := q.toNatClampNeg) (pa := 0) rfl q1 (by omega) (by omega)
  obtain ⟨iv3, la3, e3, f3⟩ := m_richest_loop (mo := mo) (g := g) hv q2 pz_F 0 iv2 la2 (f1.lq.le f2) (by omega) (by have := hv.1.2.1.2; unfold pz_F; omega)
  rw [← q1] at e3
  simp only [e1, e2, bs]
  exact ⟨iv3, la3, e3, LR.po f1 (f2.tr f3)⟩
/-- the first month by whose end the other way has brought more -/
def crL (w : Nat → Int32) (k : Nat) : Nat → Nat → Int64 → Int64 → Int32
  | 0, _, _, _ => -1
  | n + 1, m, by', ot => if ot + pdB w k m (1 - w (39 + 8 * k)) ≤ by' + pdB w k m (w (39 + 8 * k)) then crL w k n (m + 1) (by' + pdB w k m (w (39 + 8 * k))) (ot + pdB w k m (1 - w (39 + 8 * k))) else nI m
def crsV (w : Nat → Int32) (p : Int32) : Int32 := if inI p 0 (w 4 - 1) = 0 then -1 else if w (37 + 8 * p.toNatClampNeg) = -1 then -1 else crL w p.toNatClampNeg 1800 0 0 0
theorem m_crosses_loop (hv : Vld (ia 0)) {k : Nat} {p : Int32} (hp : p = nI k) (hk : k < cP (ia 0)) : ∀ (N i : Nat) (iv : Nat → Int32) (la : Nat → Nat → Int64) (by' ot : Int64), LQ (ia 0) iv la → i ≤ 1800 → 1800 - i < N → ∃ iv' la', fX10_crosses_35 N (MH mo iv ia la g) mo p by' ot (nI i) = some (crL (ia 0) k (1800 - i) i by' ot, MH mo iv' ia la' g) ∧ LE (ia 0) iv la iv' la' := by
  intro N
  have h4 := hv.p4 hk
  induction N with
  | zero => intro i _ _ _ _ _ _ h; omega
  | succ N ih =>
    intro i iv la by' ot hq hi hN
    show ∃ iv' la', fX10_crosses_35b _ _ _ _ _ _ _ = _ ∧ _
    unfold fX10_crosses_35b
    by_cases h : i = 1800
    · subst h; rw [if_pos (by decide)]
      exact ⟨iv, la, rfl, LE.rf hq.2⟩
    · rw [if_neg (nI_1800 (by omega))]
      obtain ⟨iv1, la1, e1, f1⟩ := m_paidBy (mo := mo) (g := g) hv hq (how := ia 0 (39 + 8 * k)) hp hk (q := nI i) rfl (by omega)
      obtain ⟨iv2, la2, e2, f2⟩ := m_paidBy (mo := mo) (g := g) hv (hq.le f1) (how := 1 - ia 0 (39 + 8 * k)) hp hk (q := nI i) rfl (by omega)
      rw [m_its4 hp h4, bs, e1, bs]
      dsimp only
      rw [m_its4 hp h4, bs, e2, bs]
      dsimp only
      rw [show 1800 - i = (1800 - (i + 1)) + 1 by omega, crL]
      by_cases c : ot + pdB (ia 0) k i (1 - ia 0 (39 + 8 * k)) ≤ by' + pdB (ia 0) k i (ia 0 (39 + 8 * k))
      · rw [if_pos (lg_le.mpr c), if_pos c, nI_1]
        obtain ⟨iv3, la3, e3, f3⟩ := ih (i + 1) iv2 la2 _ _ ((hq.le f1).le f2) (by omega) (by omega)
        exact ⟨iv3, la3, e3, f1.tr (f2.tr f3)⟩
      · rw [if_neg (fun q => c (lg_le.mp q)), if_neg c]
        exact ⟨iv2, la2, rfl, f1.tr f2⟩
theorem m_crosses (hv : Vld (ia 0)) (hca : CaOK iv (ia 0) la) (p : Int32) : ∃ iv' la', fnX10_crosses (MH mo iv ia la g) mo p = some (crsV (ia 0) p, MH mo iv' ia la' g) ∧ LR (ia 0) iv iv' la' := by
  unfold fnX10_crosses fX10_crosses_21 crsV
  simp only [mh_is, mh_g0, mh_g4, mh_g6, mh_g12, mh_g14, mh_g15, mh_g16, mh_g17, mh_g18, mh_g19, mh_g20, mh_r1, mh_r2, mh_r3, mh_r5, mh_r7, mh_r8, mh_r9, mh_r10, mh_r11, mh_r13, mh_r21, mh_s0, mh_s4, mh_s6, mh_s12, mh_s14, mh_s15, mh_s16, mh_s17, mh_s18, mh_s19, mh_s20, mh_w0, mh_w1, mh_w2, mh_w3, mh_w4, mh_w5, mh_w6, mh_w7, mh_w8, mh_w9, mh_w10, bs, m_isSpouse]
  by_cases c1 : inI p 0 (ia 0 4 - 1) = 0
  · simp only [c1, ↓reduceIte]; exact ⟨_, la, rfl, LR.rf hca⟩
  simp only [c1, ↓reduceIte]
  obtain ⟨p1, p2⟩ := spo_of hv c1
  simp only [m_isParted p1 (hv.p4 p2), bs]
  by_cases c2 : ia 0 (37 + 8 * p.toNatClampNeg) = -1
  · simp only [c2, ↓reduceIte]; exact ⟨_, la, rfl, LR.rf hca⟩
  simp only [c2, ↓reduceIte, show ¬ (1 : Int32) = 0 by decide]
  obtain ⟨iv1, la1, e1, f1⟩ := m_laysOwns (mo := mo) (g := g) hv (ca_up0 hca)
  obtain ⟨iv2, la2, e2, f2⟩ := m_crosses_loop (mo := mo) (g := g) hv p1 p2 pz_F 0 iv1 la1 0 0 f1.lq (by omega) (by unfold pz_F; omega)
  simp only [e1, bs]
  exact ⟨iv2, la2, e2, LR.po f1 f2⟩
end ME
