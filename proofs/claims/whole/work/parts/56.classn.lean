/-! ===== the class's plan: a wedding ===== -/
theorem svN_cg2 {w w' : Nat → Int32} (heq : ∀ j, 11 ≤ j → j < 35 → w' j = w j) {a b : Int32} : ∀ k, k ≤ 8 → svN w' a b k = svN w a b k
  | 0, _ => rfl
  | k + 1, h => by
    have ih := svN_cg2 heq (a := a) (b := b) k (by omega)
    show svN w' a b k + svT (w' (11 + 3 * k)) (w' (12 + 3 * k)) a b = svN w a b k + svT (w (11 + 3 * k)) (w (12 + 3 * k)) a b
    rw [ih, heq (11 + 3 * k) (by omega) (by omega), heq (12 + 3 * k) (by omega) (by omega)]
theorem svc_cg2 {w w' : Nat → Int32} (hc : Cnt w) (h3 : w' 3 = w 3) (heq : ∀ j, 11 ≤ j → j < 35 → w' j = w j) {a b : Int32} : svc w' a b = svc w a b := by
  have eS : cS w' = cS w := by unfold cS; rw [h3]
  unfold svc; rw [eS, svN_cg2 heq _ hc.1.2]
/-- a plan is the row's -/
def PlnR (w pi tm : Nat → Int32) (sr : Nat → Nat) (so qo tl : Nat → Nat → Int32) : Prop := LwR w pi tm sr so ∧ AllQ w qo ∧ YrR w (tl 0) (tl 1) ∧ ∀ i j, i < 8 → j < 8 → sr i = sr j → i = j
section CN
variable {po : Nat} {w pi tm : Nat → Int32} {sr : Nat → Nat} {so qo tl : Nat → Nat → Int32} {f : pz_H}
theorem c_begin (h : PlF f po pi tm sr so qo tl) {k : Nat} (hk : k < 4) (b m : Int32) : ∃ q, fnX7_begin f (po + 15 + k) b m = some (PB po pi tm sr so (va_up qo k q) tl f) ∧ q 0 = b ∧ q 1 = m ∧ q 2 = -1 ∧ q 3 = 0 ∧ q 4 = 0 ∧ q 5 = 0 ∧ q 6 = 0 ∧ q 7 = -1 ∧ q 8 = 0 := by
  unfold fnX7_begin
  rw [q_is (h.cq hk), bs, p_wq0 h hk, bs, p_wq1 PB_plf hk, bs, PB_PB, up_s, up_up, p_wq2 PB_plf hk, bs, PB_PB, up_s, up_up, p_wq3 PB_plf hk, bs, PB_PB, up_s, up_up, p_wq4 PB_plf hk, bs, PB_PB, up_s, up_up, p_wq5 PB_plf hk, bs, PB_PB, up_s, up_up, p_wq6 PB_plf hk, bs, PB_PB, up_s, up_up, p_wq7 PB_plf hk, bs, PB_PB, up_s, up_up, p_wq8 PB_plf hk, bs, PB_PB, up_s, up_up]
  exact ⟨_, rfl, rfl, rfl, rfl, rfl, rfl, rfl, rfl, rfl, rfl⟩
theorem PlnR_wed (hr : PlnR w pi tm sr so qo tl) (hv : Vld w) (h4 : cP w < 4) {b m : Int32} {q : Nat → Int32} (hq : q 0 = b ∧ q 1 = m ∧ q 2 = -1 ∧ q 3 = 0 ∧ q 4 = 0 ∧ q 5 = 0 ∧ q 6 = 0 ∧ q 7 = -1 ∧ q 8 = 0) : PlnR (wedX w b m) (va_up pi 8 (pi 8 + 1)) tm sr so (va_up qo (cP w) q) tl := by
  obtain ⟨⟨⟨a0, a1, a2, a3, a4, a5, a6⟩, tmr, s8, sp⟩, hQ, hy, inj⟩ := hr
  obtain ⟨c1, c2, d0, d1, d2, d3, d4, d5, d6, d7⟩ := wedX_at (w := w) (b := b) (m := m) h4
  have hcu := cnt_up hv.1.2.1.1 (by omega)
  have h8 := hv.1.1.2
  have hY := hv.1.2.2.2
  generalize wedX w b m = w' at *
  have eS : cS w' = cS w := by unfold cS; rw [c1 3 (by omega) (by omega)]
  have eP : cP w' = cP w + 1 := by unfold cP; rw [c2]; exact hcu.2
  have eY : cY w' = cY w := by unfold cY; rw [c1 5 (by omega) (by omega)]
  have esv : ∀ a b, svc w' a b = svc w a b := fun a b => svc_cg2 hv.c (c1 3 (by omega) (by omega)) (fun j h1 h2 => c1 j (by omega) (by omega))
  refine ⟨⟨⟨?_, ?_, ?_, ?_, ?_, ?_, ?_⟩, ?_, s8, ?_⟩, ?_, ?_, inj⟩
  · rw [up_n (by decide), c1 0 (by omega) (by omega)]; exact a0
  · rw [up_n (by decide), c1 1 (by omega) (by omega)]; exact a1
  · rw [up_n (by decide), c1 2 (by omega) (by omega)]; exact a2
  · rw [up_n (by decide), c1 3 (by omega) (by omega)]; exact a3
  · rw [up_n (by decide), esv]; exact a4
  · rw [up_s, c2, a5]
  · rw [up_n (by decide), c1 5 (by omega) (by omega)]; exact a6
  · intro i hi; rw [c1 (6 + i) (by omega) (by omega)]; exact tmr i hi
  · intro k hk
    rw [eS] at hk
    rw [c1 (11 + 3 * k) (by omega) (by omega), c1 (12 + 3 * k) (by omega) (by omega), c1 (13 + 3 * k) (by omega) (by omega)]
    exact sp k hk
  · intro k hk
    rw [eP] at hk
    by_cases e : k = cP w
    · subst e
      obtain ⟨q0, q1, q2, q3, q4, q5, q6, q7, q8⟩ := hq
      refine ⟨by rw [up_s, d0, q0], by rw [up_s, d1, q1], by rw [up_s, d2, q2], by rw [up_s, d3, q3], by rw [up_s, d4, q4], by rw [up_s, d5, q5], by rw [up_s, d6, q6], by rw [up_s, d7, q7], ?_⟩
      rw [up_s, q8]; unfold wed; rw [if_pos d2]
    · obtain ⟨q0, q1, q2, q3, q4, q5, q6, q7, q8⟩ := hQ k (by omega)
      have n : ∀ o, o < 8 → w' (35 + 8 * k + o) = w (35 + 8 * k + o) := fun o ho => c1 _ (by omega) (by omega)
      refine ⟨?_, ?_, ?_, ?_, ?_, ?_, ?_, ?_, ?_⟩
      · rw [up_n e, c1 (35 + 8 * k) (by omega) (by omega)]; exact q0
      · rw [up_n e, c1 (36 + 8 * k) (by omega) (by omega)]; exact q1
      · rw [up_n e, c1 (37 + 8 * k) (by omega) (by omega)]; exact q2
      · rw [up_n e, c1 (38 + 8 * k) (by omega) (by omega)]; exact q3
      · rw [up_n e, c1 (39 + 8 * k) (by omega) (by omega)]; exact q4
      · rw [up_n e, c1 (40 + 8 * k) (by omega) (by omega)]; exact q5
      · rw [up_n e, c1 (41 + 8 * k) (by omega) (by omega)]; exact q6
      · rw [up_n e, c1 (42 + 8 * k) (by omega) (by omega)]; exact q7
      · rw [up_n e]
        unfold wed
        rw [c1 (37 + 8 * k) (by omega) (by omega), c1 (36 + 8 * k) (by omega) (by omega), esv]; exact q8
  · obtain ⟨y1, y2, y3⟩ := hy
    refine ⟨by rw [eY]; exact y1, fun i hi => ?_, fun j hj => ?_⟩
    · rw [eY] at hi
      obtain ⟨j, j1, j2, j3⟩ := y2 i hi
      exact ⟨j, by rw [eY]; exact j1, by rw [c1 (67 + 2 * j) (by omega) (by omega)]; exact j2, by rw [c1 (68 + 2 * j) (by omega) (by omega)]; exact j3⟩
    · rw [eY] at hj
      obtain ⟨i, i1, i2, i3⟩ := y3 j hj
      exact ⟨i, by rw [eY]; exact i1, by rw [c1 (67 + 2 * j) (by omega) (by omega)]; exact i2, by rw [c1 (68 + 2 * j) (by omega) (by omega)]; exact i3⟩
end CN
