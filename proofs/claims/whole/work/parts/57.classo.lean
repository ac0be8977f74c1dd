/-! ===== the class's plan: wed ===== -/
def wdK (w : Nat → Int32) (b m : Int32) : Int32 := if m < b then 0 else if m < w 0 then 0 else if cP w = 0 then 1 else if w (37 + 8 * (cP w - 1)) = -1 then 0 else if w (37 + 8 * (cP w - 1)) ≤ m then 1 else 0
section CO
variable {po : Nat} {w pi tm : Nat → Int32} {sr : Nat → Nat} {so qo tl : Nat → Nat → Int32} {f : pz_H}
theorem c_wed (h : PlF f po pi tm sr so qo tl) (hr : PlnR w pi tm sr so qo tl) (hv : Vld w) (h4 : cP w < 4) (b m : Int32) : (wdK w b m = 0 ∧ fnX3_wed f po b m = some (0, f)) ∨ (wdK w b m = 1 ∧ ∃ pi' qo', fnX3_wed f po b m = some (1, PB po pi' tm sr so qo' tl f) ∧ PlnR (wedX w b m) pi' tm sr so qo' tl) := by
  have hP := hv.1.2.1
  have h8 : pi 8 = nI (cP w) := by rw [hr.1.1.2.2.2.2.2.1]; exact hP.1
  have ok : ∃ pi' qo', fX3_wed_50 f po b m = some (1, PB po pi' tm sr so qo' tl f) ∧ PlnR (wedX w b m) pi' tm sr so qo' tl := by
    unfold fX3_wed_50
    obtain ⟨q, e1, hq⟩ := c_begin h h4 b m
    rw [p_r7 h, bs, p_g8 h, bs, p_qr h h8 h4, bs, e1, bs, p_g8 PB_plf, bs, p_w8 PB_plf, bs, PB_PB, pb1, bs]
    exact ⟨_, _, rfl, PlnR_wed hr hv h4 hq⟩
  unfold fnX3_wed fX3_wed_21 wdK
  rw [p_is h, bs, p_g8 h, bs, h8, if_neg (show ¬ (4 : Int32) ≤ nI (cP w) by rw [show (4 : Int32) = nI 4 from rfl, nI_leI (by decide) (by omega)]; omega), p_g0 h, bs, hr.1.1.1, pb0]
  simp only [bs]
  by_cases c1 : m < b
  · rw [if_pos c1]
    left; refine ⟨rfl, ?_⟩
    by_cases c2 : m < w 0
    · rw [if_pos c2]
    · rw [if_neg c2, if_neg (show ¬ b ≤ m by rw [i32_lt] at c1; rw [i32_le]; omega)]
  rw [if_neg c1]
  by_cases c2 : m < w 0
  · rw [if_pos c2, if_pos c2]; exact Or.inl ⟨rfl, rfl⟩
  rw [if_neg c2, if_neg c2, if_pos (show b ≤ m by rw [i32_lt] at c1; rw [i32_le]; omega)]
  by_cases c3 : cP w = 0
  · rw [if_pos c3, if_pos (show nI (cP w) ≤ 0 by rw [c3]; decide)]; exact Or.inr ⟨rfl, ok⟩
  rw [if_neg c3, if_neg (show ¬ nI (cP w) ≤ 0 by rw [show (0 : Int32) = nI 0 from rfl, nI_leI (by omega) (by omega)]; omega), p_r7 h, bs, pred_nI (by omega), p_qr h (k := cP w - 1) rfl (by omega), bs, c_isPartedBy (h.cq (by omega)) (hr.2.1 (cP w - 1) (by omega)), bs]
  by_cases c4 : w (37 + 8 * (cP w - 1)) = -1
  · rw [if_pos c4, if_pos c4, if_pos rfl]; exact Or.inl ⟨rfl, rfl⟩
  rw [if_neg c4, if_neg c4]
  by_cases c5 : w (37 + 8 * (cP w - 1)) ≤ m
  · rw [if_pos c5, if_neg (show ¬ m < w (37 + 8 * (cP w - 1)) by rw [i32_le] at c5; rw [i32_lt]; omega), if_neg one_0]; exact Or.inr ⟨rfl, ok⟩
  · rw [if_neg c5, if_pos (show m < w (37 + 8 * (cP w - 1)) by rw [i32_le] at c5; rw [i32_lt]; omega), if_pos rfl]; exact Or.inl ⟨rfl, rfl⟩
end CO
