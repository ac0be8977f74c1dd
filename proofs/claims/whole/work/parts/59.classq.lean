/-! ===== the class's plan: a change of what stands at 1, 2, 6 to 10 ===== -/
theorem PlnR_low {w pi tm : Nat → Int32} {sr : Nat → Nat} {so qo tl : Nat → Nat → Int32} (hr : PlnR w pi tm sr so qo tl) (hv : Vld w) {t : Nat} {v : Int32} (ht : t = 1 ∨ t = 2 ∨ (6 ≤ t ∧ t ≤ 10)) {pi' tm' : Nat → Int32} (h1 : pi' 1 = if t = 1 then v else pi 1) (h2 : pi' 2 = if t = 2 then v else pi 2) (h0 : ∀ j, j ≠ 1 → j ≠ 2 → pi' j = pi j) (htm : ∀ i, i < 5 → tm' i = if t = 6 + i then v else tm i) : PlnR (upd w t v) pi' tm' sr so qo tl := by
  obtain ⟨⟨⟨a0, a1, a2, a3, a4, a5, a6⟩, tmr, s8, sp⟩, hQ, hy, inj⟩ := hr
  have h8 := hv.1.1.2
  have n : ∀ j, j ≠ t → upd w t v j = w j := fun j hj => upd_n hj
  have esv : ∀ a b, svc (upd w t v) a b = svc w a b := fun a b => svc_cg2 hv.c (n 3 (by omega)) (fun j x y => n j (by omega))
  have eS : cS (upd w t v) = cS w := by unfold cS; rw [n 3 (by omega)]
  have eP : cP (upd w t v) = cP w := by unfold cP; rw [n 4 (by omega)]
  have eY : cY (upd w t v) = cY w := by unfold cY; rw [n 5 (by omega)]
  refine ⟨⟨⟨?_, ?_, ?_, ?_, ?_, ?_, ?_⟩, ?_, s8, ?_⟩, ?_, ?_, inj⟩
  · rw [h0 0 (by decide) (by decide), n 0 (by omega)]; exact a0
  · rw [h1]
    by_cases e : t = 1
    · subst e; rw [if_pos rfl, upd_s]
    · rw [if_neg e, n 1 (by omega)]; exact a1
  · rw [h2]
    by_cases e : t = 2
    · subst e; rw [if_pos rfl, upd_s]
    · rw [if_neg e, n 2 (by omega)]; exact a2
  · rw [h0 5 (by decide) (by decide), n 3 (by omega)]; exact a3
  · rw [h0 6 (by decide) (by decide), esv]; exact a4
  · rw [h0 8 (by decide) (by decide), n 4 (by omega)]; exact a5
  · rw [h0 9 (by decide) (by decide), n 5 (by omega)]; exact a6
  · intro i hi
    rw [htm i hi]
    by_cases e : t = 6 + i
    · rw [if_pos e, e, upd_s]
    · rw [if_neg e, n (6 + i) (by omega)]; exact tmr i hi
  · intro k hk
    rw [eS] at hk
    rw [n (11 + 3 * k) (by omega), n (12 + 3 * k) (by omega), n (13 + 3 * k) (by omega)]; exact sp k hk
  · intro k hk
    rw [eP] at hk
    obtain ⟨q0, q1, q2, q3, q4, q5, q6, q7, q8⟩ := hQ k hk
    refine ⟨by rw [n _ (by omega)]; exact q0, by rw [n _ (by omega)]; exact q1, by rw [n _ (by omega)]; exact q2, by rw [n _ (by omega)]; exact q3, by rw [n _ (by omega)]; exact q4, by rw [n _ (by omega)]; exact q5, by rw [n _ (by omega)]; exact q6, by rw [n _ (by omega)]; exact q7, ?_⟩
    unfold wed
    rw [n (37 + 8 * k) (by omega), n (36 + 8 * k) (by omega), esv]; exact q8
  · obtain ⟨y1, y2, y3⟩ := hy
    refine ⟨by rw [eY]; exact y1, fun i hi => ?_, fun j hj => ?_⟩
    · rw [eY] at hi
      obtain ⟨j, j1, j2, j3⟩ := y2 i hi
      exact ⟨j, by rw [eY]; exact j1, by rw [n (67 + 2 * j) (by omega)]; exact j2, by rw [n (68 + 2 * j) (by omega)]; exact j3⟩
    · rw [eY] at hj
      obtain ⟨i, i1, i2, i3⟩ := y3 j hj
      exact ⟨i, by rw [eY]; exact i1, by rw [n (67 + 2 * j) (by omega)]; exact i2, by rw [n (68 + 2 * j) (by omega)]; exact i3⟩
