/-! ===== the best claim, the half: the reference ===== -/
def cbL (w : Nat → Int32) (k : Nat) : Nat → Nat → Int32 → Int64 → Int32
  | 0, _, best, _ => best
  | n + 1, c, best, most => if best = -1 then cbL w k n (c + 1) (nI c) (wsp (upd w (41 + 8 * k) (nI c)) k (rT w)) else if wsp (upd w (41 + 8 * k) (nI c)) k (rT w) ≤ most then cbL w k n (c + 1) best most else cbL w k n (c + 1) (nI c) (wsp (upd w (41 + 8 * k) (nI c)) k (rT w))
/-- how many months to claim in there are -/
def cbN (w : Nat → Int32) : Nat := if 1800 - rT w ≤ 241 then 1800 - rT w else 241
def cbV (w : Nat → Int32) (p : Int32) : Int32 := if inI p 0 (w 4 - 1) = 0 then -1 else if hwI w p (w 1) = 0 then -1 else cbL w p.toNatClampNeg (cbN w) (rT w) (-1) 0
theorem ix_claims {k : Nat} {p : Int32} (hp : p = nI k) : ((35 : Int32) + (8 : Int32) * p) + (6 : Int32) = nI (41 + 8 * k) := by
  subst hp
  rw [show (35 : Int32) = nI 35 from rfl, show (8 : Int32) = nI 8 from rfl, show (6 : Int32) = nI 6 from rfl, pk_mul, nI_add, nI_add, show 35 + 8 * k + 6 = 41 + 8 * k by omega]
theorem ix_portion {k : Nat} {p : Int32} (hp : p = nI k) : ((35 : Int32) + (8 : Int32) * p) + (3 : Int32) = nI (38 + 8 * k) := by
  subst hp
  rw [show (35 : Int32) = nI 35 from rfl, show (8 : Int32) = nI 8 from rfl, show (3 : Int32) = nI 3 from rfl, pk_mul, nI_add, nI_add, show 35 + 8 * k + 3 = 38 + 8 * k by omega]
section MHS2
variable {mo : Nat} {iv : Nat → Int32} {ia : Nat → Nat → Int32} {la : Nat → Nat → Int64} {g : pz_H}
theorem m_claimBest_loop (hv : Vld (ia 0)) (h1 : ¬ ia 0 1 = -1) {k : Nat} {p : Int32} (hp : p = nI k) (hk : k < cP (ia 0)) (hb : (ia 0 0).toInt ≤ rT (ia 0)) (hb2 : (ia 0 (35 + 8 * k)).toInt ≤ rT (ia 0)) : ∀ (N n c : Nat) (iv : Nat → Int32) (la : Nat → Nat → Int64) (x best : Int32) (most : Int64), CaOK iv (ia 0) la → c + n = rT (ia 0) + cbN (ia 0) → n < N → ∃ iv' la', fX10_claimBest_50 N (MH mo iv (va_up ia 0 (upd (ia 0) (41 + 8 * k) x)) la g) mo p (ia 0 (41 + 8 * k)) best most (nI c) = some (cbL (ia 0) k n c best most, MH mo iv' ia la' g) ∧ ((∀ q, q ≠ 6 → iv' q = iv q) ∧ CaOK iv' (ia 0) la') := by
  intro N
  have hk4 := hv.p4 hk
  obtain ⟨r1, r2, r3, r4⟩ := hv.r h1
  have hcb : cbN (ia 0) ≤ 241 ∧ rT (ia 0) + cbN (ia 0) ≤ 1800 ∧ (rT (ia 0) + cbN (ia 0) = 1800 ∨ cbN (ia 0) = 241) := by unfold cbN; split <;> omega
  induction N with
  | zero => intro n c _ _ _ _ _ _ _ h; omega
  | succ N ih =>
    intro n c iv la x best most hca hcn hN
    have row : ∀ (x : Int32) (j : Nat), j < 35 → upd (ia 0) (41 + 8 * k) x j = ia 0 j := fun x j hj => upd_n (by omega)
    have hend : ∀ (iv : Nat → Int32) (la : Nat → Nat → Int64) (best : Int32), fX10_claimBest_129 (MH mo iv (va_up ia 0 (upd (ia 0) (41 + 8 * k) x)) la g) mo p (ia 0 (41 + 8 * k)) best = some (best, MH mo iv ia la g) := by
      intro iv la best
      unfold fX10_claimBest_129
      rw [mh_r1, bs, mh_t0 (ix_claims hp) (by omega), bs, va_up_up]
      show some (best, MH mo iv (va_up ia 0 (upd (upd (ia 0) (41 + 8 * k) x) (41 + 8 * k) (ia 0 (41 + 8 * k)))) la g) = _
      rw [upd_upd, upd_id, va_up_id]
    show ∃ iv' la', fX10_claimBest_50b _ _ _ _ _ _ _ _ = _ ∧ _
    unfold fX10_claimBest_50b
    rw [mh_r1, bs, mh_w1, bs]
    have e1 : va_up ia 0 (upd (ia 0) (41 + 8 * k) x) 0 1 = nI (rT (ia 0)) := by show upd (ia 0) (41 + 8 * k) x 1 = _; rw [row x 1 (by omega)]; exact r1
    rw [e1]
    have e2 : nI (rT (ia 0)) + 240 = nI (rT (ia 0) + 240) := by rw [show (240 : Int32) = nI 240 from rfl, nI_add]
    rw [e2]
    cases n with
    | zero =>
      rcases hcb.2.2 with q | q
      · by_cases c1 : nI (rT (ia 0) + 240) < nI c
        · rw [if_pos c1, hend]; exact ⟨iv, la, rfl, fun _ _ => rfl, hca⟩
        · rw [if_neg c1, if_pos (by rw [show (1800 : Int32) = nI 1800 from rfl, nI_leI (by decide) (by omega)]; omega), hend]; exact ⟨iv, la, rfl, fun _ _ => rfl, hca⟩
      · rw [if_pos (by rw [nI_ltI (by omega) (by omega)]; omega), hend]; exact ⟨iv, la, rfl, fun _ _ => rfl, hca⟩
    | succ n =>
      rw [if_neg (by rw [nI_ltI (by omega) (by omega)]; omega), if_neg (nI_1800 (by omega)), bs, mh_t0 (ix_claims hp) (by omega), bs, va_up_up]
      have e3 : upd (va_up ia 0 (upd (ia 0) (41 + 8 * k) x) 0) (41 + 8 * k) (nI c) = upd (ia 0) (41 + 8 * k) (nI c) := by
        show upd (upd (ia 0) (41 + 8 * k) x) (41 + 8 * k) (nI c) = _
        rw [upd_upd]
      rw [e3, mh_r1, bs, mh_w1, bs]
      have e4 : va_up ia 0 (upd (ia 0) (41 + 8 * k) (nI c)) 0 1 = nI (rT (ia 0)) := by show upd (ia 0) (41 + 8 * k) (nI c) 1 = _; rw [row _ 1 (by omega)]; exact r1
      have hv2 : Vld (va_up ia 0 (upd (ia 0) (41 + 8 * k) (nI c)) 0) := Vld_claims hv hk (by rw [nI_toInt (by omega)]; omega) (by rw [nI_toInt (by omega)]; omega)
      have hk2 : k < cP (va_up ia 0 (upd (ia 0) (41 + 8 * k) (nI c)) 0) := by
        have : cP (va_up ia 0 (upd (ia 0) (41 + 8 * k) (nI c)) 0) = cP (ia 0) := by
          show cP (upd (ia 0) (41 + 8 * k) (nI c)) = _
          unfold cP; rw [row _ 4 (by omega)]
        rw [this]; exact hk
      obtain ⟨iv1, la1, e5, f1⟩ := m_worthOfSpouse (mo := mo) (iv := iv) (ia := va_up ia 0 (upd (ia 0) (41 + 8 * k) (nI c))) (la := la) (g := g) hv2 (hca.cg hv.c (fun j hj => row _ j hj)) (by rw [e4, ← r1]; exact h1) hp hk2 (t := rT (ia 0)) e4 r2 (by
          show (upd (ia 0) (41 + 8 * k) (nI c) 0).toInt ≤ _
          rw [row _ 0 (by omega)]; exact hb) (by
          show (upd (ia 0) (41 + 8 * k) (nI c) (35 + 8 * k)).toInt ≤ _
          rw [upd_n (by omega)]; exact hb2)
      rw [e4] at e5 ⊢
      rw [e5, bs]
      have ca1 : CaOK iv1 (ia 0) la1 := CaOK.cg hv2.c (fun j hj => (row _ j hj).symm) f1.2.2
      have go : ∀ b mo2, ∃ iv' la', fX10_claimBest_50 N (MH mo iv1 (va_up ia 0 (upd (ia 0) (41 + 8 * k) (nI c))) la1 g) mo p (ia 0 (41 + 8 * k)) b mo2 (nI (c + 1)) = some (cbL (ia 0) k n (c + 1) b mo2, MH mo iv' ia la' g) ∧ ((∀ q, q ≠ 6 → iv' q = iv q) ∧ CaOK iv' (ia 0) la') := by
        intro b mo2
        obtain ⟨iv2, la2, e6, f2, f3⟩ := ih n (c + 1) iv1 la1 (nI c) b mo2 ca1 (by omega) (by omega)
        exact ⟨iv2, la2, e6, fun q hq => (f2 q hq).trans (f1.1.1 q hq), f3⟩
      unfold fX10_claimBest_116 fX10_claimBest_123 cbL
      rw [nI_1]
      dsimp only
      have e7 : wsp (va_up ia 0 (upd (ia 0) (41 + 8 * k) (nI c)) 0) k (rT (ia 0)) = wsp (upd (ia 0) (41 + 8 * k) (nI c)) k (rT (ia 0)) := rfl
      rw [e7]
      by_cases c1 : best = -1
      · rw [if_pos c1, if_pos c1]; exact go _ _
      · rw [if_neg c1, if_neg c1]
        by_cases c2 : wsp (upd (ia 0) (41 + 8 * k) (nI c)) k (rT (ia 0)) ≤ most
        · rw [if_pos (lg_le.mpr c2), if_pos c2]; exact go _ _
        · rw [if_neg (fun z => c2 (lg_le.mp z)), if_neg c2]; exact go _ _
theorem m_claimBest (hv : Vld (ia 0)) (hca : CaOK iv (ia 0) la) (p : Int32) : ∃ iv' la', fnX10_claimBest (MH mo iv ia la g) mo p = some (cbV (ia 0) p, MH mo iv' ia la' g) ∧ LR (ia 0) iv iv' la' := by
  unfold fnX10_claimBest fX10_claimBest_27 cbV
  simp only [mh_is, mh_g0, mh_g4, mh_g6, mh_g12, mh_g14, mh_g15, mh_g16, mh_g17, mh_g18, mh_g19, mh_g20, mh_r1, mh_r2, mh_r3, mh_r5, mh_r7, mh_r8, mh_r9, mh_r10, mh_r11, mh_r13, mh_r21, mh_s0, mh_s4, mh_s6, mh_s12, mh_s14, mh_s15, mh_s16, mh_s17, mh_s18, mh_s19, mh_s20, mh_w0, mh_w1, mh_w2, mh_w3, mh_w4, mh_w5, mh_w6, mh_w7, mh_w8, mh_w9, mh_w10, bs, m_isSpouse, m_hasWorth hv]
  by_cases c1 : inI p 0 (ia 0 4 - 1) = 0
  · simp only [c1, ↓reduceIte]; exact ⟨_, la, rfl, LR.rf hca⟩
  simp only [c1, ↓reduceIte]
  by_cases c2 : hwI (ia 0) p (ia 0 1) = 0
  · simp only [c2, ↓reduceIte]; exact ⟨_, la, rfl, LR.rf hca⟩
  simp only [c2, ↓reduceIte]
  obtain ⟨p1, p2⟩ := spo_of hv c1
  obtain ⟨h1, h2, h3, h4, h5⟩ := hw_of c2
  obtain ⟨r1, r2, r3, r4⟩ := hv.r h3
  have hp10 : ¬ p = 10 := by
    have := hv.p4 p2
    intro q; rw [q] at this; exact absurd this (by decide)
  unfold bornW at h5; rw [if_neg hp10] at h5
  have hb := not_lt_nat r1 r2 h4
  have hb2 := not_lt_nat r1 r2 h5
  simp only [m_its6 p1 (hv.p4 p2), bs]
  obtain ⟨iv1, la1, e1, f1, f2⟩ := m_claimBest_loop (mo := mo) (g := g) hv h3 p1 p2 hb hb2 pz_F (cbN (ia 0)) (rT (ia 0)) (va_up iv 0 0) la (ia 0 (41 + 8 * p.toNatClampNeg)) (-1) 0 (ca_up0 hca) rfl (by unfold pz_F cbN; split <;> omega)
  rw [upd_id, va_up_id, ← r1] at e1
  exact ⟨iv1, la1, e1, fun q h0 h6 => by rw [f1 q h6]; unfold va_up; rw [if_neg h0], f2⟩
def hfL (w : Nat → Int32) (k : Nat) (all : Int64) : Nat → Nat → Int32
  | 0, _ => -1
  | n + 1, p => if 2 * wsp (upd w (38 + 8 * k) (nI p)) k (rT w) < all then hfL w k all n (p + 1) else nI p
def hfV (w : Nat → Int32) (p : Int32) : Int32 := if inI p 0 (w 4 - 1) = 0 then -1 else if w (37 + 8 * p.toNatClampNeg) = -1 then -1 else if hwI w p (w 1) = 0 then -1 else hfL w p.toNatClampNeg (wal w (rT w)) 1001 0
theorem lg_lt {x y : Int64} : lg_cmp x y < 0 ↔ x < y := by
  unfold lg_cmp
  by_cases h1 : y < x
  · rw [if_pos h1]; rw [i64_lt] at h1
    constructor
    · intro q; exact absurd q (by decide)
    · intro q; rw [i64_lt] at q; omega
  · rw [if_neg h1]
    by_cases h2 : x = y
    · rw [if_pos h2, h2]
      constructor
      · intro q; exact absurd q (by decide)
      · intro q; rw [i64_lt] at q; omega
    · rw [if_neg h2]; rw [i64_lt] at h1; rw [i64_eq] at h2
      constructor
      · intro _; rw [i64_lt]; omega
      · intro _; decide
theorem m_half_loop (hv : Vld (ia 0)) (h1 : ¬ ia 0 1 = -1) {k : Nat} {p : Int32} {all : Int64} (hp : p = nI k) (hk : k < cP (ia 0)) (hpt : ¬ ia 0 (37 + 8 * k) = -1) (hb : (ia 0 0).toInt ≤ rT (ia 0)) (hb2 : (ia 0 (35 + 8 * k)).toInt ≤ rT (ia 0)) : ∀ (N n c : Nat) (iv : Nat → Int32) (la : Nat → Nat → Int64) (x : Int32), CaOK iv (ia 0) la → c + n = 1001 → n + 1 < N → ∃ iv' la', fX10_half_62 N (MH mo iv (va_up ia 0 (upd (ia 0) (38 + 8 * k) x)) la g) mo p all (ia 0 (38 + 8 * k)) (-1) (nI c) = some (hfL (ia 0) k all n c, MH mo iv' ia la' g) ∧ ((∀ q, q ≠ 6 → iv' q = iv q) ∧ CaOK iv' (ia 0) la') := by
  intro N
  have hk4 := hv.p4 hk
  obtain ⟨r1, r2, r3, r4⟩ := hv.r h1
  have row : ∀ (x : Int32) (j : Nat), j < 35 → upd (ia 0) (38 + 8 * k) x j = ia 0 j := fun x j hj => upd_n (by omega)
  have hend : ∀ (iv : Nat → Int32) (la : Nat → Nat → Int64) (x best : Int32), fX10_half_126 (MH mo iv (va_up ia 0 (upd (ia 0) (38 + 8 * k) x)) la g) mo p (ia 0 (38 + 8 * k)) best = some (best, MH mo iv ia la g) := by
    intro iv la x best
    unfold fX10_half_126
    rw [mh_r1, bs, mh_t0 (ix_portion hp) (by omega), bs, va_up_up]
    show some (best, MH mo iv (va_up ia 0 (upd (upd (ia 0) (38 + 8 * k) x) (38 + 8 * k) (ia 0 (38 + 8 * k)))) la g) = _
    rw [upd_upd, upd_id, va_up_id]
  induction N with
  | zero => intro n c _ _ _ _ _ h; omega
  | succ N ih =>
    intro n c iv la x hca hcn hN
    show ∃ iv' la', fX10_half_62b _ _ _ _ _ _ _ _ = _ ∧ _
    unfold fX10_half_62b
    cases n with
    | zero =>
      rw [if_pos (by rw [show (1000 : Int32) = nI 1000 from rfl, nI_ltI (by decide) (by omega)]; omega), hend]; exact ⟨iv, la, rfl, fun _ _ => rfl, hca⟩
    | succ n =>
      rw [if_neg (by rw [show (1000 : Int32) = nI 1000 from rfl, nI_ltI (by decide) (by omega)]; omega), if_pos rfl, mh_r1, bs, mh_t0 (ix_portion hp) (by omega), bs, va_up_up]
      have e3 : upd (va_up ia 0 (upd (ia 0) (38 + 8 * k) x) 0) (38 + 8 * k) (nI c) = upd (ia 0) (38 + 8 * k) (nI c) := by
        show upd (upd (ia 0) (38 + 8 * k) x) (38 + 8 * k) (nI c) = _
        rw [upd_upd]
      rw [e3, mh_r1, bs, mh_w1, bs]
      have e4 : va_up ia 0 (upd (ia 0) (38 + 8 * k) (nI c)) 0 1 = nI (rT (ia 0)) := by show upd (ia 0) (38 + 8 * k) (nI c) 1 = _; rw [row _ 1 (by omega)]; exact r1
      have hv2 : Vld (va_up ia 0 (upd (ia 0) (38 + 8 * k) (nI c)) 0) := Vld_portion hv hk hpt (by rw [nI_toInt (by omega)]; omega) (by rw [nI_toInt (by omega)]; omega)
      have hk2 : k < cP (va_up ia 0 (upd (ia 0) (38 + 8 * k) (nI c)) 0) := by
        have : cP (va_up ia 0 (upd (ia 0) (38 + 8 * k) (nI c)) 0) = cP (ia 0) := by
          show cP (upd (ia 0) (38 + 8 * k) (nI c)) = _
          unfold cP; rw [row _ 4 (by omega)]
        rw [this]; exact hk
      obtain ⟨iv1, la1, e5, f1⟩ := m_worthOfSpouse (mo := mo) (iv := iv) (ia := va_up ia 0 (upd (ia 0) (38 + 8 * k) (nI c))) (la := la) (g := g) hv2 (hca.cg hv.c (fun j hj => row _ j hj)) (by rw [e4, ← r1]; exact h1) hp hk2 (t := rT (ia 0)) e4 r2 (by
          show (upd (ia 0) (38 + 8 * k) (nI c) 0).toInt ≤ _
          rw [row _ 0 (by omega)]; exact hb) (by
          show (upd (ia 0) (38 + 8 * k) (nI c) (35 + 8 * k)).toInt ≤ _
          rw [upd_n (by omega)]; exact hb2)
      rw [e4] at e5 ⊢
      rw [e5, bs]
      have ca1 : CaOK iv1 (ia 0) la1 := CaOK.cg hv2.c (fun j hj => (row _ j hj).symm) f1.2.2
      unfold fX10_half_118 hfL
      rw [nI_1]
      dsimp only
      have e7 : wsp (va_up ia 0 (upd (ia 0) (38 + 8 * k) (nI c)) 0) k (rT (ia 0)) = wsp (upd (ia 0) (38 + 8 * k) (nI c)) k (rT (ia 0)) := rfl
      rw [e7]
      by_cases c2 : 2 * wsp (upd (ia 0) (38 + 8 * k) (nI c)) k (rT (ia 0)) < all
      · rw [if_pos (lg_lt.mpr c2), if_pos c2]
        obtain ⟨iv2, la2, e6, f2, f3⟩ := ih n (c + 1) iv1 la1 (nI c) ca1 (by omega) (by omega)
        exact ⟨iv2, la2, e6, fun q hq => (f2 q hq).trans (f1.1.1 q hq), f3⟩
      · rw [if_neg (fun z => c2 (lg_lt.mp z)), if_neg c2]
        cases N with
        | zero => omega
        | succ N =>
          show ∃ iv' la', fX10_half_62b _ _ _ _ _ _ _ _ = _ ∧ _
          unfold fX10_half_62b
          have hne : ¬ nI c = -1 := ne_m1 (by rw [nI_toInt (by omega)]; omega)
          rw [if_neg hne, hend]
          refine ⟨iv1, la1, ?_, f1.1.1, ca1⟩
          split <;> rfl
theorem m_half (hv : Vld (ia 0)) (hca : CaOK iv (ia 0) la) (p : Int32) : ∃ iv' la', fnX10_half (MH mo iv ia la g) mo p = some (hfV (ia 0) p, MH mo iv' ia la' g) ∧ LR (ia 0) iv iv' la' := by
  unfold fnX10_half fX10_half_35 hfV
  simp only [mh_is, mh_g0, mh_g4, mh_g6, mh_g12, mh_g14, mh_g15, mh_g16, mh_g17, mh_g18, mh_g19, mh_g20, mh_r1, mh_r2, mh_r3, mh_r5, mh_r7, mh_r8, mh_r9, mh_r10, mh_r11, mh_r13, mh_r21, mh_s0, mh_s4, mh_s6, mh_s12, mh_s14, mh_s15, mh_s16, mh_s17, mh_s18, mh_s19, mh_s20, mh_w0, mh_w1, mh_w2, mh_w3, mh_w4, mh_w5, mh_w6, mh_w7, mh_w8, mh_w9, mh_w10, bs, m_isSpouse, m_hasWorth hv]
  by_cases c1 : inI p 0 (ia 0 4 - 1) = 0
  · simp only [c1, ↓reduceIte]; exact ⟨_, la, rfl, LR.rf hca⟩
  simp only [c1, ↓reduceIte]
  obtain ⟨p1, p2⟩ := spo_of hv c1
  have hk4 := hv.p4 p2
  simp only [m_isParted p1 hk4, bs]
  by_cases c3 : ia 0 (37 + 8 * p.toNatClampNeg) = -1
  · simp only [c3, ↓reduceIte]; exact ⟨_, la, rfl, LR.rf hca⟩
  simp only [c3, ↓reduceIte, show ¬ (1 : Int32) = 0 by decide]
  by_cases c2 : hwI (ia 0) p (ia 0 1) = 0
  · simp only [c2, ↓reduceIte]; exact ⟨_, la, rfl, LR.rf hca⟩
  simp only [c2, ↓reduceIte]
  obtain ⟨h1, h2, h3, h4, h5⟩ := hw_of c2
  obtain ⟨r1, r2, r3, r4⟩ := hv.r h3
  have hp10 : ¬ p = 10 := by intro q; rw [q] at hk4; exact absurd hk4 (by decide)
  unfold bornW at h5; rw [if_neg hp10] at h5
  have hb := not_lt_nat r1 r2 h4
  have hb2 := not_lt_nat r1 r2 h5
  obtain ⟨iv1, la1, e1, f1⟩ := m_worthOfAll (mo := mo) (g := g) hv (ca_up0 hca) h3 r1 r2 hb
  simp only [e1, m_its3 p1 hk4, bs]
  obtain ⟨iv2, la2, e2, f2, f3⟩ := m_half_loop (mo := mo) (g := g) (all := wal (ia 0) (rT (ia 0))) hv h3 p1 p2 c3 hb hb2 pz_F 1001 0 iv1 la1 (ia 0 (38 + 8 * p.toNatClampNeg)) f1.2.2 rfl (by unfold pz_F; omega)
  rw [upd_id, va_up_id] at e2
  exact ⟨iv2, la2, e2, fun q h0 h6 => by rw [f2 q h6, f1.1.1 q h6]; unfold va_up; rw [if_neg h0], f3⟩
end MHS2
