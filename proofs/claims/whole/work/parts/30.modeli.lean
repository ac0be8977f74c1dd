/-! ===== the reference's small answers ===== -/
theorem bornW_0 {w : Nat → Int32} (hv : Vld w) {p : Int32} (h : ¬ whoI w p = 0) : 0 ≤ (bornW w p).toInt := by
  unfold bornW
  by_cases c : p = 10
  · rw [if_pos c]; exact hv.2.1.1
  · rw [if_neg c]
    obtain ⟨_, b⟩ := spo_of hv (whoI_sp h c)
    exact (hv.sp b).1.1
def annV (w : Nat → Int32) (p q s : Int32) : Int64 := if whoI w p = 0 then -1 else if inI q 0 1799 = 0 then -1 else if inI s 0 1799 = 0 then -1 else if s < q then -1 else if bornW w p ≤ q then ann w (bornW w p) q.toNatClampNeg s.toNatClampNeg else -1
def ownV (w : Nat → Int32) (p : Int32) : Int64 := if inI p 0 (w 4 - 1) = 0 then -1 else if w 1 = -1 then -1 else own w p.toNatClampNeg
def dscV (w : Nat → Int32) (q : Int32) : Int32 := if inI q 0 1799 = 0 then -1 else (dsc w q.toNatClampNeg).toInt32
def whlV (w : Nat → Int32) (q : Int32) : Int32 := if inI q 0 1799 = 0 then -1 else (whl w q.toNatClampNeg).toInt32
def lvsV (w : Nat → Int32) (q : Int32) : Int32 := if 0 ≤ q then lvs w q else -1
def svcV (w : Nat → Int32) (p q : Int32) : Int32 := if inI p 0 1799 = 0 then -1 else if inI q 0 1799 = 0 then -1 else svc w p q
def benV (w : Nat → Int32) (p : Int32) : Int32 := if p = 0 then svc w 0 1800 else if p = 1 then fpay w else if p = 2 then basev w else if p = 3 then first w else -1
def cntV (w : Nat → Int32) (tape past p : Int32) : Int32 := if inI p 10 14 = 0 then (if p = 0 then w 3 else if p = 1 then w 4 else if p = 2 then w 5 else if p = 3 then w 0 else if p = 4 then w 1 else if p = 5 then w 2 else if p = 6 then tape else if p = 7 then past else -1) else w (p.toNatClampNeg - 4)
/-- whether a span's, a spouse's number is asked for that is not there -/
def spnR (w : Nat → Int32) (p q : Int32) : Int32 := if inI p 0 (w 3 - 1) = 0 then 1 else if inI q 0 2 = 0 then 1 else 0
def spnV (w : Nat → Int32) (p q : Int32) : Int32 := if spnR w p q ≤ 0 then w (11 + 3 * p.toNatClampNeg + q.toNatClampNeg) else 0
def spoR (w : Nat → Int32) (p q : Int32) : Int32 := if inI p 0 (w 4 - 1) = 0 then 1 else if inI q 0 9 = 0 then 1 else 0
def spoV (w : Nat → Int32) (p q : Int32) : Int32 := if spoR w p q ≤ 0 then (if 8 ≤ q then (if q = 8 then wed w p.toNatClampNeg else beg w p.toNatClampNeg) else w (35 + 8 * p.toNatClampNeg + q.toNatClampNeg)) else 0
/-- a number in a row, by its bounds -/
theorem row_of {q : Int32} {h : Nat} (hh : h < 2147483648) (hq : ¬ inI q 0 (nI h) = 0) : q = nI q.toNatClampNeg ∧ q.toNatClampNeg ≤ h := by
  rw [inI_0] at hq
  have a : ¬ q < 0 := fun z => hq (Or.inl z)
  have b : ¬ nI h < q := fun z => hq (Or.inr z)
  rw [i32_lt] at a b
  have a2 : 0 ≤ q.toInt := by
    have : (0 : Int32).toInt = 0 := rfl
    omega
  obtain ⟨c, d⟩ := nI_clampI a2
  rw [nI_toInt hh] at b
  exact ⟨c, by omega⟩
section MI
variable {mo : Nat} {iv : Nat → Int32} {ia : Nat → Nat → Int32} {la : Nat → Nat → Int64} {g : pz_H}
theorem m_bornW (hv : Vld (ia 0)) {p : Int32} (c1 : ¬ whoI (ia 0) p = 0) : fnX10_bornOf (MH mo iv ia la g) mo p = some (bornW (ia 0) p) := by
  unfold bornW
  by_cases c : p = 10
  · rw [if_pos c, c]; exact m_bornM
  · rw [if_neg c]
    obtain ⟨a, b⟩ := spo_of hv (whoI_sp c1 c)
    exact m_bornS a (hv.p4 b)
theorem m_annuity (hv : Vld (ia 0)) (hca : CaOK iv (ia 0) la) (p q s : Int32) : ∃ iv' la', fnX10_annuity (MH mo iv ia la g) mo p q s = some (annV (ia 0) p q s, MH mo iv' ia la' g) ∧ LR (ia 0) iv iv' la' := by
  unfold fnX10_annuity fX10_annuity_41 annV
  simp only [mh_is, mh_g0, mh_g4, mh_g6, mh_g12, mh_g14, mh_g15, mh_g16, mh_g17, mh_g18, mh_g19, mh_g20, mh_r1, mh_r2, mh_r3, mh_r5, mh_r7, mh_r8, mh_r9, mh_r10, mh_r11, mh_r13, mh_r21, mh_s0, mh_s4, mh_s6, mh_s12, mh_s14, mh_s15, mh_s16, mh_s17, mh_s18, mh_s19, mh_s20, mh_w0, mh_w1, mh_w2, mh_w3, mh_w4, mh_w5, mh_w6, mh_w7, mh_w8, mh_w9, mh_w10, bs, m_isWhoI, m_isMonth]
  by_cases c1 : whoI (ia 0) p = 0
  · simp only [c1, ↓reduceIte]; exact ⟨_, la, rfl, LR.rf hca⟩
  simp only [c1, ↓reduceIte, m_bornW hv c1, bs]
  by_cases c2 : inI q 0 1799 = 0
  · simp only [c2, ↓reduceIte]; exact ⟨_, la, rfl, LR.rf hca⟩
  simp only [c2, ↓reduceIte]
  by_cases c3 : inI s 0 1799 = 0
  · simp only [c3, ↓reduceIte]; exact ⟨_, la, rfl, LR.rf hca⟩
  simp only [c3, ↓reduceIte]
  by_cases c4 : s < q
  · simp only [c4, ↓reduceIte]; exact ⟨_, la, rfl, LR.rf hca⟩
  simp only [c4, ↓reduceIte]
  by_cases c5 : bornW (ia 0) p ≤ q
  · simp only [c5, ↓reduceIte]
    obtain ⟨q1, q2⟩ := mon_of c2
    obtain ⟨s1, s2⟩ := mon_of c3
    have hqs : q.toNatClampNeg ≤ s.toNatClampNeg := by
      rw [i32_lt, q1, s1, nI_toInt (by omega), nI_toInt (by omega)] at c4; omega
    have hb1 : (bornW (ia 0) p).toInt ≤ q.toNatClampNeg := by
      rw [i32_le, q1, nI_toInt (by omega)] at c5; exact c5
    obtain ⟨la1, e1, f1, f2⟩ := m_odds2 (mo := mo) (iv := va_up iv 0 0) (la := la) (g := g) hv q1 q2 (fun la => m_bornW hv c1) (bornW_0 hv c1) hb1
    obtain ⟨iv2, la2, e2, f3, f4⟩ := m_ann2 (mo := mo) (g := g) hv ((ca_up0 hca).od (j := 2) (by omega) f1) q1 s1 hqs s2
    simp only [e1, bs, mh_r8, e2]
    refine ⟨iv2, la2, ?_, LR.lo ((LO.od (Or.inl rfl) (ca_up0 hca) f1).tr f3.lo)⟩
    unfold ann
    rw [smA_congr (G := fun m => dsc (ia 0) (m - q.toNatClampNeg) * od (ia 0) (bornW (ia 0) p) (nI q.toNatClampNeg) m / 1000000000) _ (fun m h1 h2 => by
      show dsc _ _ * la1 2 m / _ = _
      rw [f2 m (by omega) (by omega)])]
  · simp only [c5, ↓reduceIte]; exact ⟨_, la, rfl, LR.rf hca⟩
theorem m_own (hv : Vld (ia 0)) (hca : CaOK iv (ia 0) la) (p : Int32) : ∃ iv' la', fnX10_own (MH mo iv ia la g) mo p = some (ownV (ia 0) p, MH mo iv' ia la' g) ∧ LR (ia 0) iv iv' la' := by
  unfold fnX10_own fX10_own_31 fX10_own_34 ownV
  simp only [mh_is, mh_g0, mh_g4, mh_g6, mh_g12, mh_g14, mh_g15, mh_g16, mh_g17, mh_g18, mh_g19, mh_g20, mh_r1, mh_r2, mh_r3, mh_r5, mh_r7, mh_r8, mh_r9, mh_r10, mh_r11, mh_r13, mh_r21, mh_s0, mh_s4, mh_s6, mh_s12, mh_s14, mh_s15, mh_s16, mh_s17, mh_s18, mh_s19, mh_s20, mh_w0, mh_w1, mh_w2, mh_w3, mh_w4, mh_w5, mh_w6, mh_w7, mh_w8, mh_w9, mh_w10, bs, m_isSpouse]
  by_cases c1 : inI p 0 (ia 0 4 - 1) = 0
  · simp only [c1, ↓reduceIte]; exact ⟨_, la, rfl, LR.rf hca⟩
  simp only [c1, ↓reduceIte]
  by_cases c2 : ia 0 1 = -1
  · simp only [c2, ↓reduceIte]; exact ⟨_, la, rfl, LR.rf hca⟩
  simp only [c2, ↓reduceIte]
  obtain ⟨p1, p2⟩ := spo_of hv c1
  obtain ⟨iv1, la1, e1, f1⟩ := m_ownOf (mo := mo) (g := g) hv (ca_up0 hca) p1 p2
  simp only [e1, bs]
  exact ⟨iv1, la1, rfl, LR.lo f1⟩
theorem m_discount (hv : Vld (ia 0)) (hca : CaOK iv (ia 0) la) (q : Int32) : ∃ iv' la', fnX10_discount (MH mo iv ia la g) mo q = some (dscV (ia 0) q, MH mo iv' ia la' g) ∧ LR (ia 0) iv iv' la' := by
  unfold fnX10_discount dscV
  simp only [mh_is, mh_g0, mh_g4, mh_g6, mh_g12, mh_g14, mh_g15, mh_g16, mh_g17, mh_g18, mh_g19, mh_g20, mh_r1, mh_r2, mh_r3, mh_r5, mh_r7, mh_r8, mh_r9, mh_r10, mh_r11, mh_r13, mh_r21, mh_s0, mh_s4, mh_s6, mh_s12, mh_s14, mh_s15, mh_s16, mh_s17, mh_s18, mh_s19, mh_s20, mh_w0, mh_w1, mh_w2, mh_w3, mh_w4, mh_w5, mh_w6, mh_w7, mh_w8, mh_w9, mh_w10, bs, m_isMonth]
  by_cases c1 : inI q 0 1799 = 0
  · simp only [c1, ↓reduceIte]; exact ⟨_, la, rfl, LR.rf hca⟩
  simp only [c1, ↓reduceIte]
  obtain ⟨q1, q2⟩ := mon_of c1
  obtain ⟨iv1, la1, e1, f1, f2⟩ := m_lays (mo := mo) (g := g) hv (ca_up0 hca)
  simp only [e1, bs, mh_r7, mh_l1 q1 q2]
  exact ⟨iv1, la1, by rw [(f2.2 _ q2).2], LR.le f1⟩
theorem m_whole (hv : Vld (ia 0)) (hca : CaOK iv (ia 0) la) (q : Int32) : ∃ iv' la', fnX10_whole (MH mo iv ia la g) mo q = some (whlV (ia 0) q, MH mo iv' ia la' g) ∧ LR (ia 0) iv iv' la' := by
  unfold fnX10_whole whlV
  simp only [mh_is, mh_g0, mh_g4, mh_g6, mh_g12, mh_g14, mh_g15, mh_g16, mh_g17, mh_g18, mh_g19, mh_g20, mh_r1, mh_r2, mh_r3, mh_r5, mh_r7, mh_r8, mh_r9, mh_r10, mh_r11, mh_r13, mh_r21, mh_s0, mh_s4, mh_s6, mh_s12, mh_s14, mh_s15, mh_s16, mh_s17, mh_s18, mh_s19, mh_s20, mh_w0, mh_w1, mh_w2, mh_w3, mh_w4, mh_w5, mh_w6, mh_w7, mh_w8, mh_w9, mh_w10, bs, m_isMonth]
  by_cases c1 : inI q 0 1799 = 0
  · simp only [c1, ↓reduceIte]; exact ⟨_, la, rfl, LR.rf hca⟩
  simp only [c1, ↓reduceIte]
  obtain ⟨q1, q2⟩ := mon_of c1
  obtain ⟨iv1, la1, e1, f1, f2⟩ := m_lays (mo := mo) (g := g) hv (ca_up0 hca)
  simp only [e1, bs, mh_r5, mh_l0 q1 q2]
  exact ⟨iv1, la1, by rw [(f2.2 _ q2).1], LR.le f1⟩
theorem m_lives (hv : Vld (ia 0)) (q : Int32) : fnX10_lives (MH mo iv ia la g) mo q = some (lvsV (ia 0) q, MH mo (va_up iv 0 0) ia la g) := by
  unfold fnX10_lives fX10_lives_18 lvsV
  simp only [mh_is, mh_g0, mh_g4, mh_g6, mh_g12, mh_g14, mh_g15, mh_g16, mh_g17, mh_g18, mh_g19, mh_g20, mh_r1, mh_r2, mh_r3, mh_r5, mh_r7, mh_r8, mh_r9, mh_r10, mh_r11, mh_r13, mh_r21, mh_s0, mh_s4, mh_s6, mh_s12, mh_s14, mh_s15, mh_s16, mh_s17, mh_s18, mh_s19, mh_s20, mh_w0, mh_w1, mh_w2, mh_w3, mh_w4, mh_w5, mh_w6, mh_w7, mh_w8, mh_w9, mh_w10, bs]
  by_cases c1 : 0 ≤ q
  · simp only [c1, ↓reduceIte, m_livesAt hv (i32_le.mp c1), bs]
  · simp only [c1, ↓reduceIte]
theorem m_service (hv : Vld (ia 0)) (p q : Int32) : fnX10_service (MH mo iv ia la g) mo p q = some (svcV (ia 0) p q, MH mo (va_up iv 0 0) ia la g) := by
  unfold fnX10_service fX10_service_28 fX10_service_29 svcV
  simp only [mh_is, mh_g0, mh_g4, mh_g6, mh_g12, mh_g14, mh_g15, mh_g16, mh_g17, mh_g18, mh_g19, mh_g20, mh_r1, mh_r2, mh_r3, mh_r5, mh_r7, mh_r8, mh_r9, mh_r10, mh_r11, mh_r13, mh_r21, mh_s0, mh_s4, mh_s6, mh_s12, mh_s14, mh_s15, mh_s16, mh_s17, mh_s18, mh_s19, mh_s20, mh_w0, mh_w1, mh_w2, mh_w3, mh_w4, mh_w5, mh_w6, mh_w7, mh_w8, mh_w9, mh_w10, bs, m_isMonth, m_serviceIn hv.c]
  by_cases c1 : inI p 0 1799 = 0
  · simp only [c1, ↓reduceIte]
  simp only [c1, ↓reduceIte]
  by_cases c2 : inI q 0 1799 = 0
  · simp only [c2, ↓reduceIte]
  · simp only [c2, ↓reduceIte]
theorem m_benefit (hv : Vld (ia 0)) (p : Int32) : fnX10_benefit (MH mo iv ia la g) mo p = some (benV (ia 0) p, MH mo (va_up iv 0 0) ia la g) := by
  unfold fnX10_benefit benV
  simp only [mh_is, mh_g0, mh_g4, mh_g6, mh_g12, mh_g14, mh_g15, mh_g16, mh_g17, mh_g18, mh_g19, mh_g20, mh_r1, mh_r2, mh_r3, mh_r5, mh_r7, mh_r8, mh_r9, mh_r10, mh_r11, mh_r13, mh_r21, mh_s0, mh_s4, mh_s6, mh_s12, mh_s14, mh_s15, mh_s16, mh_s17, mh_s18, mh_s19, mh_s20, mh_w0, mh_w1, mh_w2, mh_w3, mh_w4, mh_w5, mh_w6, mh_w7, mh_w8, mh_w9, mh_w10, bs, m_served hv.c, m_finalPay hv.c, m_base hv.c, m_firstPaid hv.c]
  by_cases c1 : p = 0
  · simp only [c1, ↓reduceIte]
  simp only [c1, ↓reduceIte]
  by_cases c2 : p = 1
  · simp only [c2, ↓reduceIte]
  simp only [c2, ↓reduceIte]
  by_cases c3 : p = 2
  · simp only [c3, ↓reduceIte]
  simp only [c3, ↓reduceIte]
  by_cases c4 : p = 3
  · simp only [c4, ↓reduceIte]
  · simp only [c4, ↓reduceIte]
theorem m_count (p : Int32) : fnX10_count (MH mo iv ia la g) mo p = some (cntV (ia 0) (iv 14) (iv 4) p, MH mo (va_up iv 0 0) ia la g) := by
  unfold fnX10_count cntV
  simp only [mh_is, mh_g0, mh_g4, mh_g6, mh_g12, mh_g14, mh_g15, mh_g16, mh_g17, mh_g18, mh_g19, mh_g20, mh_r1, mh_r2, mh_r3, mh_r5, mh_r7, mh_r8, mh_r9, mh_r10, mh_r11, mh_r13, mh_r21, mh_s0, mh_s4, mh_s6, mh_s12, mh_s14, mh_s15, mh_s16, mh_s17, mh_s18, mh_s19, mh_s20, mh_w0, mh_w1, mh_w2, mh_w3, mh_w4, mh_w5, mh_w6, mh_w7, mh_w8, mh_w9, mh_w10, bs, m_in]
  by_cases c0 : inI p 10 14 = 0
  · simp only [c0, ↓reduceIte]
    by_cases c1 : p = 0
    · simp only [c1, ↓reduceIte]
    simp only [c1, ↓reduceIte]
    by_cases c2 : p = 1
    · simp only [c2, ↓reduceIte]
    simp only [c2, ↓reduceIte]
    by_cases c3 : p = 2
    · simp only [c3, ↓reduceIte]
    simp only [c3, ↓reduceIte]
    by_cases c4 : p = 3
    · simp only [c4, ↓reduceIte]
    simp only [c4, ↓reduceIte]
    by_cases c5 : p = 4
    · simp only [c5, ↓reduceIte]
    simp only [c5, ↓reduceIte]
    by_cases c6 : p = 5
    · simp only [c6, ↓reduceIte]
    simp only [c6, ↓reduceIte]
    by_cases c7 : p = 6
    · simp only [c7, ↓reduceIte]; rfl
    simp only [c7, ↓reduceIte]
    by_cases c8 : p = 7
    · simp only [c8, ↓reduceIte]; rfl
    · simp only [c8, ↓reduceIte]
  · simp only [c0, ↓reduceIte]
    have hp : 10 ≤ p.toInt ∧ p.toInt ≤ 14 := by
      rw [inI_0] at c0
      have a : ¬ p < 10 := fun z => c0 (Or.inl z)
      have b : ¬ (14 : Int32) < p := fun z => c0 (Or.inr z)
      rw [i32_lt] at a b
      have : (10 : Int32).toInt = 10 := rfl
      have : (14 : Int32).toInt = 14 := rfl
      omega
    obtain ⟨p1, p2⟩ := nI_clampI (x := p) (by omega)
    have hix : ((6 : Int32) + p) - 10 = nI (p.toNatClampNeg - 4) := by
      rw [i32_eq, nI_toInt (by omega), i32_sub, i32_add]
      · have : (10 : Int32).toInt = 10 := rfl
        have : (6 : Int32).toInt = 6 := rfl
        omega
      all_goals
        have h10 : (10 : Int32).toInt = 10 := rfl
        have h6 : (6 : Int32).toInt = 6 := rfl
        try rw [i32_add (by omega) (by omega)]
        omega
    rw [mh_i0 hix (by omega), bs]
theorem m_span (hv : Vld (ia 0)) (p q : Int32) : fnX10_span (MH mo iv ia la g) mo p q = some (spnV (ia 0) p q, MH mo (va_up iv 0 (spnR (ia 0) p q)) ia la g) := by
  unfold fnX10_span fX10_span_30 fX10_span_31 fX10_span_51 spnV spnR
  simp only [mh_is, mh_g0, mh_g4, mh_g6, mh_g12, mh_g14, mh_g15, mh_g16, mh_g17, mh_g18, mh_g19, mh_g20, mh_r1, mh_r2, mh_r3, mh_r5, mh_r7, mh_r8, mh_r9, mh_r10, mh_r11, mh_r13, mh_r21, mh_s0, mh_s4, mh_s6, mh_s12, mh_s14, mh_s15, mh_s16, mh_s17, mh_s18, mh_s19, mh_s20, mh_w0, mh_w1, mh_w2, mh_w3, mh_w4, mh_w5, mh_w6, mh_w7, mh_w8, mh_w9, mh_w10, bs, m_in]
  by_cases c1 : inI p 0 (ia 0 3 - 1) = 0
  · simp only [c1, ↓reduceIte]; rfl
  simp only [c1, ↓reduceIte]
  by_cases c2 : inI q 0 2 = 0
  · simp only [c2, ↓reduceIte]; rfl
  simp only [c2, ↓reduceIte]
  have e0 : va_up iv 0 0 0 ≤ 0 := Int32.le_refl 0
  have e1 : (0 : Int32) ≤ 0 := Int32.le_refl 0
  simp only [e0, e1, ↓reduceIte]
  have hS := hv.1.1
  have hp : p = nI p.toNatClampNeg ∧ p.toNatClampNeg < cS (ia 0) := by
    by_cases c : cS (ia 0) = 0
    · exfalso; apply c1
      rw [hS.1, c, inI_0]
      by_cases d : p < 0
      · exact Or.inl d
      · right; rw [i32_lt] at d ⊢
        have : ((nI 0) - 1 : Int32).toInt = -1 := rfl
        have : (0 : Int32).toInt = 0 := rfl
        omega
    · have h3 : ia 0 3 - 1 = nI (cS (ia 0) - 1) := by
        rw [hS.1, i32_eq, nI_toInt (by omega), i32_sub (by rw [nI_toInt (by omega)]; show _ ≤ _ - (1 : Int); omega) (by rw [nI_toInt (by omega)]; show _ - (1 : Int) ≤ _; omega), nI_toInt (by omega)]
        show (cS (ia 0) : Int) - 1 = _
        omega
      rw [h3] at c1
      obtain ⟨a, b⟩ := row_of (by omega) c1
      exact ⟨a, by omega⟩
  have hq : q = nI q.toNatClampNeg ∧ q.toNatClampNeg ≤ 2 := row_of (h := 2) (by decide) c2
  have hix : ((11 : Int32) + (3 : Int32) * p) + q = nI (11 + 3 * p.toNatClampNeg + q.toNatClampNeg) := by
    conv => lhs; rw [hp.1, hq.1]
    rw [show (11 : Int32) = nI 11 from rfl, show (3 : Int32) = nI 3 from rfl, pk_mul, nI_add, nI_add]
  unfold fnX10_spanOf
  simp only [mh_is, mh_g0, mh_g4, mh_g6, mh_g12, mh_g14, mh_g15, mh_g16, mh_g17, mh_g18, mh_g19, mh_g20, mh_r1, mh_r2, mh_r3, mh_r5, mh_r7, mh_r8, mh_r9, mh_r10, mh_r11, mh_r13, mh_r21, mh_s0, mh_s4, mh_s6, mh_s12, mh_s14, mh_s15, mh_s16, mh_s17, mh_s18, mh_s19, mh_s20, mh_w0, mh_w1, mh_w2, mh_w3, mh_w4, mh_w5, mh_w6, mh_w7, mh_w8, mh_w9, mh_w10, bs]
  rw [mh_i0 hix (by omega), bs]; rfl
theorem m_spouse (hv : Vld (ia 0)) (p q : Int32) : fnX10_spouse (MH mo iv ia la g) mo p q = some (spoV (ia 0) p q, MH mo (va_up iv 0 (spoR (ia 0) p q)) ia la g) := by
  unfold fnX10_spouse fX10_spouse_23 fX10_spouse_24 fX10_spouse_70 spoV spoR
  simp only [mh_is, mh_g0, mh_g4, mh_g6, mh_g12, mh_g14, mh_g15, mh_g16, mh_g17, mh_g18, mh_g19, mh_g20, mh_r1, mh_r2, mh_r3, mh_r5, mh_r7, mh_r8, mh_r9, mh_r10, mh_r11, mh_r13, mh_r21, mh_s0, mh_s4, mh_s6, mh_s12, mh_s14, mh_s15, mh_s16, mh_s17, mh_s18, mh_s19, mh_s20, mh_w0, mh_w1, mh_w2, mh_w3, mh_w4, mh_w5, mh_w6, mh_w7, mh_w8, mh_w9, mh_w10, bs, m_in, m_isSpouse]
  by_cases c1 : inI p 0 (ia 0 4 - 1) = 0
  · simp only [c1, ↓reduceIte]; rfl
  simp only [c1, ↓reduceIte]
  by_cases c2 : inI q 0 9 = 0
  · simp only [c2, ↓reduceIte]; rfl
  simp only [c2, ↓reduceIte]
  have e0 : va_up iv 0 0 0 ≤ 0 := Int32.le_refl 0
  have e1 : (0 : Int32) ≤ 0 := Int32.le_refl 0
  simp only [e0, e1, ↓reduceIte]
  obtain ⟨p1, p2⟩ := spo_of hv c1
  have hk4 := hv.p4 p2
  have hq : q = nI q.toNatClampNeg ∧ q.toNatClampNeg ≤ 9 := row_of (h := 9) (by decide) c2
  simp only [m_wedIn hv.c p1 hk4, m_begin p1 hk4, bs]
  by_cases c3 : 8 ≤ q
  · simp only [c3, ↓reduceIte]
    by_cases c4 : q = 8
    · simp only [c4, ↓reduceIte]
    · simp only [c4, ↓reduceIte]
  · simp only [c3, ↓reduceIte]
    have hq8 : q.toNatClampNeg < 8 := by
      rw [i32_le] at c3
      obtain ⟨_, b⟩ := nI_clampI (x := q) (by rw [hq.1, nI_toInt (by omega)]; omega)
      have : (8 : Int32).toInt = 8 := rfl
      omega
    have hix : ((35 : Int32) + (8 : Int32) * p) + q = nI (35 + 8 * p.toNatClampNeg + q.toNatClampNeg) := by
      conv => lhs; rw [p1, hq.1]
      rw [show (35 : Int32) = nI 35 from rfl, show (8 : Int32) = nI 8 from rfl, pk_mul, nI_add, nI_add]
    unfold fnX10_its
    simp only [mh_is, mh_g0, mh_g4, mh_g6, mh_g12, mh_g14, mh_g15, mh_g16, mh_g17, mh_g18, mh_g19, mh_g20, mh_r1, mh_r2, mh_r3, mh_r5, mh_r7, mh_r8, mh_r9, mh_r10, mh_r11, mh_r13, mh_r21, mh_s0, mh_s4, mh_s6, mh_s12, mh_s14, mh_s15, mh_s16, mh_s17, mh_s18, mh_s19, mh_s20, mh_w0, mh_w1, mh_w2, mh_w3, mh_w4, mh_w5, mh_w6, mh_w7, mh_w8, mh_w9, mh_w10, bs]
    rw [mh_i0 hix (by omega), bs]; rfl
theorem m_fault : fnX10_fault (MH mo iv ia la g) mo = some (iv 15, MH mo (va_up iv 0 0) ia la g) := by
  unfold fnX10_fault
  simp only [mh_is, mh_g0, mh_g4, mh_g6, mh_g12, mh_g14, mh_g15, mh_g16, mh_g17, mh_g18, mh_g19, mh_g20, mh_r1, mh_r2, mh_r3, mh_r5, mh_r7, mh_r8, mh_r9, mh_r10, mh_r11, mh_r13, mh_r21, mh_s0, mh_s4, mh_s6, mh_s12, mh_s14, mh_s15, mh_s16, mh_s17, mh_s18, mh_s19, mh_s20, mh_w0, mh_w1, mh_w2, mh_w3, mh_w4, mh_w5, mh_w6, mh_w7, mh_w8, mh_w9, mh_w10, bs]; rfl
theorem m_end (p : Int32) : fnX10_end (MH mo iv ia la g) mo p = if inI p 0 (iv 14) = 0 then some (0, MH mo (va_up iv 0 0) ia la g) else some (1, MH mo (va_up (va_up iv 0 0) 14 p) ia la g) := by
  unfold fnX10_end
  simp only [mh_is, mh_g0, mh_g4, mh_g6, mh_g12, mh_g14, mh_g15, mh_g16, mh_g17, mh_g18, mh_g19, mh_g20, mh_r1, mh_r2, mh_r3, mh_r5, mh_r7, mh_r8, mh_r9, mh_r10, mh_r11, mh_r13, mh_r21, mh_s0, mh_s4, mh_s6, mh_s12, mh_s14, mh_s15, mh_s16, mh_s17, mh_s18, mh_s19, mh_s20, mh_w0, mh_w1, mh_w2, mh_w3, mh_w4, mh_w5, mh_w6, mh_w7, mh_w8, mh_w9, mh_w10, bs, m_in, pb0, pb1]
  have : va_up iv 0 0 14 = iv 14 := rfl
  rw [this]
end MI
