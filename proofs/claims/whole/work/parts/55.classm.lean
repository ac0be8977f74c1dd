/-! ===== the class's plan: counting anew ===== -/
/-- the spans alone are the row's -/
def SpnR (w pi : Nat → Int32) (sr : Nat → Nat) (so : Nat → Nat → Int32) : Prop := pi 5 = w 3 ∧ (∀ i, i < 8 → sr i < 8) ∧ ∀ k, k < cS w → so (sr k) 0 = w (11 + 3 * k) ∧ so (sr k) 1 = w (12 + 3 * k) ∧ so (sr k) 2 = w (13 + 3 * k)
theorem LwR.sp {w pi tm : Nat → Int32} {sr : Nat → Nat} {so : Nat → Nat → Int32} (h : LwR w pi tm sr so) : SpnR w pi sr so := ⟨h.1.2.2.2.1, h.2.2.1, h.2.2.2⟩
section CM
variable {po : Nat} {w pi pi' tm tm' : Nat → Int32} {sr sr' : Nat → Nat} {so qo tl so' qo' tl' : Nat → Nat → Int32} {f : pz_H}
theorem PB_PB : PB po pi tm sr so qo tl (PB po pi' tm' sr' so' qo' tl' f) = PB po pi tm sr so qo tl f := BU_BU
theorem c_serv_loop (h : PlF f po pi tm sr so qo tl) (hr : SpnR w pi sr so) (hc : Cnt w) {a b : Int32} : ∀ (N i : Nat), i ≤ cS w → cS w - i < N → fX3_serviceWithin_5 f N po a b (svN w a b i) (nI i) = some (svc w a b) := by
  intro N
  have hn := hc.1.1
  have h8 := hc.1.2
  induction N with
  | zero => intro i _ hh; omega
  | succ N ih =>
    intro i hi hN
    show fX3_serviceWithin_5b _ _ _ _ _ _ _ = _
    unfold fX3_serviceWithin_5b
    simp only [p_g5 h, bs]
    rw [hr.1, hn]
    by_cases c : i = cS w
    · rw [← c, if_pos (Int32.le_refl _), c]; rfl
    · have hlt : i < cS w := by omega
      obtain ⟨s0, s1, s2⟩ := hr.2.2 i hlt
      have hj := hr.2.1 i (by omega)
      rw [if_neg (by rw [nI_leI (by omega) (by omega)]; omega)]
      unfold fX3_serviceWithin_42 fX3_serviceWithin_72 fX3_serviceWithin_91
      simp only [p_r4 h, p_sr h (i := nI i) rfl (show i < 8 by omega), p_s0g h hj, p_s1g h hj, bs, s0, s1, nI_1]
      have key := ih (i + 1) (by omega) (by omega)
      have hs : svN w a b (i + 1) = svN w a b i + svT (w (11 + 3 * i)) (w (12 + 3 * i)) a b := rfl
      rw [hs] at key
      unfold svT at key
      rw [← mx_sw (a := a) (x := w (11 + 3 * i)), ← mn_sw (b := b) (y := w (12 + 3 * i))] at key
      by_cases c1 : a ≤ w (11 + 3 * i) <;> by_cases c2 : w (12 + 3 * i) ≤ b <;> simp only [c1, c2, ↓reduceIte] at key ⊢ <;> (split <;> (rename_i c3; simp only [c3, ↓reduceIte] at key; exact key))
theorem c_serv (h : PlF f po pi tm sr so qo tl) (hr : SpnR w pi sr so) (hc : Cnt w) {a b : Int32} : fnX3_serviceWithin f po a b = some (svc w a b) := by
  unfold fnX3_serviceWithin
  simp only [p_is h, bs]
  exact c_serv_loop h hr hc pz_F 0 (by omega) (by have := hc.1.2; unfold pz_F; omega)
theorem c_recount_loop (hr : SpnR w pi sr so) (hc : Cnt w) {n : Nat} (h8 : pi 8 = nI n) (hn : n ≤ 4) : ∀ (N i : Nat) (qo : Nat → Nat → Int32), i ≤ n → n - i < N → ∃ qo', fX3_recount_14 N (PB po pi tm sr so qo tl f) po (nI i) = some (PB po pi tm sr so qo' tl f) ∧ (∀ k o, o ≠ 8 → qo' k o = qo k o) ∧ (∀ k, i ≤ k → k < n → qo' k 8 = if qo k 2 = -1 then 0 else svc w (qo k 1) (qo k 2)) ∧ ∀ k, k < i → qo' k = qo k := by
  intro N
  induction N with
  | zero => intro i _ _ hh; omega
  | succ N ih =>
    intro i qo hi hN
    show ∃ qo', fX3_recount_14b _ _ _ _ = _ ∧ _
    unfold fX3_recount_14b
    rw [p_g8 PB_plf, bs, h8]
    by_cases c : i = n
    · rw [if_pos (by rw [c]; exact Int32.le_refl _)]
      exact ⟨qo, rfl, fun _ _ _ => rfl, fun k h1 h2 => by omega, fun _ _ => rfl⟩
    · have hlt : i < n := by omega
      have hs : SpF (PB po pi tm sr so qo tl f) (po + 15 + i) (qo i) := PB_plf.cq (by omega)
      rw [if_neg (by rw [nI_leI (by omega) (by omega)]; omega), p_r7 PB_plf, bs, p_qr PB_plf (k := i) rfl (by omega), bs, q_g2 hs, bs]
      have go : ∀ x : Int32, x = (if qo i 2 = -1 then 0 else svc w (qo i 1) (qo i 2)) → ∃ qo', fX3_recount_54 (fX3_recount_14 N) (PB po pi tm sr so qo tl f) po (nI i) x (po + 15 + i) = some (PB po pi tm sr so qo' tl f) ∧ (∀ k o, o ≠ 8 → qo' k o = qo k o) ∧ (∀ k, i ≤ k → k < n → qo' k 8 = if qo k 2 = -1 then 0 else svc w (qo k 1) (qo k 2)) ∧ ∀ k, k < i → qo' k = qo k := by
        intro x hx
        unfold fX3_recount_54
        rw [p_wq8 PB_plf (by omega), bs, PB_PB, nI_1]
        obtain ⟨qo1, e1, g1, g2, g3⟩ := ih (i + 1) (va_up qo i (va_up (qo i) 8 x)) (by omega) (by omega)
        have same : ∀ k o, o ≠ 8 → va_up qo i (va_up (qo i) 8 x) k o = qo k o := by
          intro k o ho
          by_cases z : k = i
          · subst z; rw [up_s, up_n ho]
          · rw [up_n z]
        refine ⟨qo1, e1, fun k o ho => by rw [g1 k o ho, same k o ho], fun k h1 h2 => ?_, fun k hk => by rw [g3 k (by omega), up_n (by omega)]⟩
        by_cases z : k = i
        · subst z; rw [g3 k (by omega), up_s, up_s, hx]
        · rw [g2 k (by omega) h2, same k 2 (by decide), same k 1 (by decide)]
      by_cases d : qo i 2 = -1
      · rw [if_pos d]; exact go 0 (by rw [if_pos d])
      · rw [if_neg d, q_g1 hs, bs]
        simp only [bs]
        rw [c_serv PB_plf hr hc, bs]
        exact go _ (by rw [if_neg d])
theorem c_recount (h : PlF f po pi tm sr so qo tl) (hr : SpnR w pi sr so) (hc : Cnt w) {n : Nat} (h8 : pi 8 = nI n) (hn : n ≤ 4) : ∃ qo', fnX3_recount f po = some (PB po (va_up pi 6 (svc w 0 1800)) tm sr so qo' tl f) ∧ (∀ k o, o ≠ 8 → qo' k o = qo k o) ∧ ∀ k, k < n → qo' k 8 = if qo k 2 = -1 then 0 else svc w (qo k 1) (qo k 2) := by
  unfold fnX3_recount
  rw [p_is h, bs, c_serv h hr hc, bs, p_w6 h, bs]
  have hr' : SpnR w (va_up pi 6 (svc w 0 1800)) sr so := ⟨by rw [up_n (by decide)]; exact hr.1, hr.2⟩
  obtain ⟨qo1, e1, g1, g2, _⟩ := c_recount_loop (po := po) (tm := tm) (tl := tl) (f := f) (w := w) hr' hc (n := n) (by rw [up_n (by decide)]; exact h8) hn pz_F 0 qo (by omega) (by unfold pz_F; omega)
  exact ⟨qo1, e1, g1, fun k hk => g2 k (by omega) hk⟩
end CM
