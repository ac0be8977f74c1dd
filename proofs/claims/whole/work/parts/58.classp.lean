/-! ===== the class's plan: part ===== -/
def ptK (w : Nat → Int32) (m : Int32) : Int32 := if cP w = 0 then 0 else if w (37 + 8 * (cP w - 1)) = -1 then (if w (36 + 8 * (cP w - 1)) < m then 1 else 0) else 0
theorem prtW_at {w : Nat → Int32} {k : Nat} {m p h s : Int32} : (∀ j, j < 37 + 8 * k ∨ 41 + 8 * k ≤ j → prtW w k m p h s j = w j) ∧ prtW w k m p h s (37 + 8 * k) = m ∧ prtW w k m p h s (38 + 8 * k) = p ∧ prtW w k m p h s (39 + 8 * k) = h ∧ prtW w k m p h s (40 + 8 * k) = s := by
  unfold prtW
  refine ⟨fun j hj => by rw [upd_n (by omega), upd_n (by omega), upd_n (by omega), upd_n (by omega)], ?_, ?_, ?_, ?_⟩
  · rw [upd_n (by omega), upd_n (by omega), upd_n (by omega), upd_s]
  · rw [upd_n (by omega), upd_n (by omega), upd_s]
  · rw [upd_n (by omega), upd_s]
  · rw [upd_s]
section CP
variable {po : Nat} {w pi tm : Nat → Int32} {sr : Nat → Nat} {so qo tl : Nat → Nat → Int32} {f : pz_H}
theorem c_part (h : PlF f po pi tm sr so qo tl) (hr : PlnR w pi tm sr so qo tl) (hv : Vld w) (m p hw s : Int32) : (ptK w m = 0 ∧ fnX3_part f po m p hw s = some (0, f)) ∨ (ptK w m = 1 ∧ ∃ pi' qo', fnX3_part f po m p hw s = some (1, PB po pi' tm sr so qo' tl f) ∧ PlnR (prtW w (cP w - 1) m p hw s) pi' tm sr so qo' tl) := by
  have hP := hv.1.2.1
  have h8 : pi 8 = nI (cP w) := by rw [hr.1.1.2.2.2.2.2.1]; exact hP.1
  unfold fnX3_part fX3_part_40 ptK
  rw [p_is h, bs, p_g8 h, bs, h8, pb0]
  simp only [bs]
  by_cases c3 : cP w = 0
  · rw [if_pos c3, if_pos (show nI (cP w) = 0 by rw [c3]; rfl)]; exact Or.inl ⟨rfl, rfl⟩
  rw [if_neg c3, if_neg (show ¬ nI (cP w) = 0 by rw [i32_eq, nI_toInt (by omega), z32]; omega), p_r7 h, bs, pred_nI (by omega), p_qr h (k := cP w - 1) rfl (by omega), bs]
  have hk4 : cP w - 1 < 4 := by omega
  have hq := hr.2.1 (cP w - 1) (by omega)
  have hs := h.cq hk4
  rw [q_g2 hs, bs, hq.2.2.1]
  by_cases c4 : w (37 + 8 * (cP w - 1)) = -1
  · rw [if_pos c4, if_pos c4, q_g1 hs, bs, hq.2.1]
    by_cases c5 : w (36 + 8 * (cP w - 1)) < m
    · rw [if_pos c5, if_pos c5]
      right; refine ⟨rfl, ?_⟩
      rw [p_wq2 h hk4, bs, p_wq3 PB_plf hk4, bs, PB_PB, up_s, up_up, p_wq4 PB_plf hk4, bs, PB_PB, up_s, up_up, p_wq5 PB_plf hk4, bs, PB_PB, up_s, up_up]
      generalize hK : cP w - 1 = K at *
      obtain ⟨g, g2, g3, g4, g5⟩ := prtW_at (w := w) (k := K) (m := m) (p := p) (h := hw) (s := s)
      have hl : Lk w (prtW w K m p hw s) := fun j hj => g j (by omega)
      generalize prtW w K m p hw s = w' at *
      have hc' : Cnt w' := by
        have eS : cS w' = cS w := by unfold cS; rw [hl 3 (by omega)]
        have eP : cP w' = cP w := by unfold cP; rw [hl 4 (by omega)]
        have eY : cY w' = cY w := by unfold cY; rw [hl 5 (by omega)]
        unfold Cnt; rw [eS, eP, eY, hl 3 (by omega), hl 4 (by omega), hl 5 (by omega)]; exact hv.1
      have hlw := hr.1.lk hv.c hl
      have eP : cP w' = cP w := by unfold cP; rw [hl 4 (by omega)]
      obtain ⟨qo2, e1, f1, f2⟩ := c_recount (w := w') (f := PB po pi tm sr so (va_up qo K (va_up (va_up (va_up (va_up (qo K) 2 m) 3 p) 4 hw) 5 s)) tl f) PB_plf hlw.sp hc' h8 hP.2
      rw [e1, bs, pb1, bs, PB_PB]
      refine ⟨_, qo2, rfl, ⟨⟨?_, ?_, ?_, ?_, ?_, ?_, ?_⟩, hlw.2⟩, ?_, hr.2.2.1.lk hl, hr.2.2.2⟩
      · rw [up_n (by decide)]; exact hlw.1.1
      · rw [up_n (by decide)]; exact hlw.1.2.1
      · rw [up_n (by decide)]; exact hlw.1.2.2.1
      · rw [up_n (by decide)]; exact hlw.1.2.2.2.1
      · exact up_s
      · rw [up_n (by decide)]; exact hlw.1.2.2.2.2.2.1
      · rw [up_n (by decide)]; exact hlw.1.2.2.2.2.2.2
      · intro k hk
        rw [eP] at hk
        have f2k := f2 k hk
        by_cases e : k = K
        · subst e
          obtain ⟨q0, q1, q2, q3, q4, q5, q6, q7, q8⟩ := hq
          rw [up_s] at f2k
          refine ⟨?_, ?_, ?_, ?_, ?_, ?_, ?_, ?_, ?_⟩
          · rw [f1 k 0 (by decide), up_s, g (35 + 8 * k) (by omega)]; exact q0
          · rw [f1 k 1 (by decide), up_s, g (36 + 8 * k) (by omega)]; exact q1
          · rw [f1 k 2 (by decide), up_s, g2]; rfl
          · rw [f1 k 3 (by decide), up_s, g3]; rfl
          · rw [f1 k 4 (by decide), up_s, g4]; rfl
          · rw [f1 k 5 (by decide), up_s, g5]; rfl
          · rw [f1 k 6 (by decide), up_s, g (41 + 8 * k) (by omega)]; exact q6
          · rw [f1 k 7 (by decide), up_s, g (42 + 8 * k) (by omega)]; exact q7
          · rw [f2k]; unfold wed
            rw [g2, g (36 + 8 * k) (by omega), ← q1]; rfl
        · obtain ⟨q0, q1, q2, q3, q4, q5, q6, q7, q8⟩ := hr.2.1 k hk
          rw [up_n e] at f2k
          refine ⟨?_, ?_, ?_, ?_, ?_, ?_, ?_, ?_, ?_⟩
          · rw [f1 k 0 (by decide), up_n e, g (35 + 8 * k) (by omega)]; exact q0
          · rw [f1 k 1 (by decide), up_n e, g (36 + 8 * k) (by omega)]; exact q1
          · rw [f1 k 2 (by decide), up_n e, g (37 + 8 * k) (by omega)]; exact q2
          · rw [f1 k 3 (by decide), up_n e, g (38 + 8 * k) (by omega)]; exact q3
          · rw [f1 k 4 (by decide), up_n e, g (39 + 8 * k) (by omega)]; exact q4
          · rw [f1 k 5 (by decide), up_n e, g (40 + 8 * k) (by omega)]; exact q5
          · rw [f1 k 6 (by decide), up_n e, g (41 + 8 * k) (by omega)]; exact q6
          · rw [f1 k 7 (by decide), up_n e, g (42 + 8 * k) (by omega)]; exact q7
          · rw [f2k]; unfold wed
            rw [g (37 + 8 * k) (by omega), g (36 + 8 * k) (by omega), q1, q2]
    · rw [if_neg c5, if_neg c5]; exact Or.inl ⟨rfl, rfl⟩
  · rw [if_neg c4, if_neg c4]; exact Or.inl ⟨rfl, rfl⟩
end CP
