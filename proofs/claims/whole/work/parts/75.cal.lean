/-! ===== the class's calendar ===== -/
def CaC (co : Nat) (sz : Int32) (cd : Nat → Int32) : Nat → Option pz_E := fun o => match o with
  | 0 => some (.inl (0, [.ref (co + 1), .int sz]))
  | 1 => some (.inr (0, 34, .inl cd))
  | _ => none
def CaB (co : Nat) (sz : Int32) (cd : Nat → Int32) (f : pz_H) : pz_H := BU co 2 (CaC co sz cd) f
def EvC (sz : Int32) (cd : Nat → Int32) (s : (Nat → Int32) × Nat) : Prop := sz = nI s.2 ∧ ∀ j, j < s.2 → cd j = s.1 j
section CAL
variable {co po : Nat} {sz : Int32} {cd w pi tm : Nat → Int32} {sr : Nat → Nat} {so qo tl : Nat → Nat → Int32} {f : pz_H}
theorem k_0 : (CaB co sz cd f).1 co = some (.inl (0, [.ref (co + 1), .int sz])) := by unfold CaB; rw [BU_0 (by decide)]; rfl
theorem k_is : pz_is (CaB co sz cd f) co 0 = some () := is_of k_0
theorem k_r0 : pz_gR (CaB co sz cd f) co 0 0 = some (co + 1) := gR_of k_0 rfl
theorem k_g1 : pz_gI (CaB co sz cd f) co 0 1 = some sz := gI_of k_0 rfl
theorem k_w1 {v : Int32} : pz_sV (CaB co sz cd f) co 0 1 (.int v) = some (CaB co v cd f) := by
  rw [sV_of k_0 (show 1 < 2 by decide)]; unfold CaB; rw [BU_up0 (by decide)]
  congr 2; funext o; match o with
  | 0 => rfl
  | 1 => rfl
  | n + 2 => rfl
theorem k_a {i : Int32} {k : Nat} (hi : i = nI k) (hk : k < 34) : pz_aI (CaB co sz cd f) (co + 1) 0 i = some (cd k) := aI_of (n := 34) (by unfold CaB; rw [BU_at (by decide)]; rfl) hi hk (by decide)
theorem k_n : pz_ln (CaB co sz cd f) (co + 1) 0 = some 34 := by
  have hc : (CaB co sz cd f).1 (co + 1) = some (.inr (0, 34, .inl cd)) := by unfold CaB; rw [BU_at (by decide)]; rfl
  unfold pz_ln; rw [hc]; rfl
theorem k_t {i x : Int32} {k : Nat} (hi : i = nI k) (hk : k < 34) : pz_tI (CaB co sz cd f) (co + 1) 0 i x = some (CaB co sz (upd cd k x) f) := by
  rw [tI_of (n := 34) (g := cd) (by unfold CaB; rw [BU_at (by decide)]; rfl) hi hk (by decide)]
  unfold CaB; rw [BU_up (by decide)]
  congr 2; funext o; match o with
  | 0 => rfl
  | 1 => rfl
  | n + 2 => rfl
theorem PlF.ca (h : PlF f po pi tm sr so qo tl) (hd : po + 19 ≤ co ∨ co + 2 ≤ po) : PlF (CaB co sz cd f) po pi tm sr so qo tl := fun o ho => by
  unfold CaB; rw [BU_ne (by omega)]; exact h o ho
theorem c_add_loop {x : Int32} : ∀ (N n : Nat) (cd : Nat → Int32), n < 34 → n < N → fX1_add_37 N (CaB co sz cd f) co x (nI n) = some (CaB co (sz + 1) (insL x n cd) f) := by
  intro N
  induction N with
  | zero => intro n _ _ h; omega
  | succ N ih =>
    intro n cd h4 hN
    show fX1_add_37b _ _ _ _ _ = _
    unfold fX1_add_37b
    have stop : ∀ m (cd : Nat → Int32), m < 34 → fX1_add_78 (CaB co sz cd f) co x (nI m) = some (CaB co (sz + 1) (upd cd m x) f) := by
      intro m cd hm
      unfold fX1_add_78
      rw [k_r0, bs, k_t rfl hm, bs, k_g1, bs, k_w1, bs]
    cases n with
    | zero => rw [if_pos (by decide), stop 0 cd (by decide)]; rfl
    | succ n =>
      have e2 : nI (n + 1) + (-1) = nI n := by rw [← nI_1, Int32.add_assoc]; exact Int32.add_zero _
      rw [if_neg (nI_nle (by omega) (by omega)), k_r0, bs, nI_pred, k_a rfl (by omega), bs]
      unfold insL
      by_cases c : cd n ≤ x
      · rw [if_pos c, if_pos c, stop (n + 1) cd h4]
      · rw [if_neg c, if_neg c, bs, bs, k_a rfl (by omega), bs, k_t rfl h4, bs, e2, ih n _ (by omega) (by omega)]
theorem c_add {m kd nu : Int32} {s : (Nat → Int32) × Nat} (hs : s.2 < 34) (hr : EvC sz cd s) : ∃ sz' cd', fnX1_add (CaB co sz cd f) co m kd nu = some (CaB co sz' cd' f) ∧ EvC sz' cd' (evA s m kd nu) := by
  unfold fnX1_add evA fX1_add_17
  rw [k_is, bs]
  by_cases c : m = -1
  · rw [if_pos c, if_pos c]; exact ⟨sz, cd, rfl, hr⟩
  · rw [if_neg c, if_neg c, k_g1, bs, k_r0, bs, k_n, bs, hr.1, if_pos (by rw [show (34 : Int32) = nI 34 from rfl, nI_ltI (by omega) (by decide)]; exact hs), bs, c_add_loop pz_F s.2 cd hs (by unfold pz_F; omega)]
    refine ⟨_, _, rfl, by rw [nI_1], fun j hj => ?_⟩
    exact insL_cg s.2 cd s.1 0 (fun i hi => by
      rcases hi with a | ⟨a, b⟩
      · exact hr.2 i a
      · omega) j (Or.inr (by have : j < s.2 + 1 := hj; omega))
theorem c_fill53 (h : PlF f po pi tm sr so qo tl) (hd : po + 19 ≤ co ∨ co + 2 ≤ po) (hr : LwR w pi tm sr so) (hQ : AllQ w qo) (hv : Vld w) : ∀ (N n : Nat) (sz : Int32) (cd : Nat → Int32), EvC sz cd (evQ w n) → n ≤ cP w → cP w - n < N → ∃ sz' cd', fX1_fill_53 N (CaB co sz cd f) co po (nI n) = some (CaB co sz' cd' f) ∧ EvC sz' cd' (evT w) := by
  have h4 := hv.1.2.1
  have h8 : pi 8 = nI (cP w) := by rw [hr.1.2.2.2.2.2.1]; exact h4.1
  intro N
  induction N with
  | zero => intro n _ _ _ _ h; omega
  | succ N ih =>
    intro n sz cd hr0 hn hN
    show ∃ sz' cd', fX1_fill_53b _ _ _ _ _ = _ ∧ _
    unfold fX1_fill_53b
    have hq := evQ_le hv.c n
    rw [p_g8 (h.ca hd), bs, h8]
    by_cases cn : n = cP w
    · subst cn
      rw [if_pos (Int32.le_refl _), p_g1 (h.ca hd), bs, hr.1.2.1]
      obtain ⟨z1, c1, e1, f1⟩ := c_add (co := co) (f := f) (m := w 1) (kd := 4) (nu := 0) (show (evQ w (cP w)).2 < 34 by omega) hr0
      have hq1 := @evA_le (evQ w (cP w)) (w 1) 4 0
      obtain ⟨z2, c2, e2, f2⟩ := c_add (co := co) (f := f) (m := w 2) (kd := 7) (nu := 0) (show (evA (evQ w (cP w)) (w 1) 4 0).2 < 34 by omega) f1
      rw [e1, bs, p_g2 (h.ca hd), bs, hr.1.2.2.1, e2, bs]
      exact ⟨z2, c2, rfl, f2⟩
    · have hlt : n < cP w := by omega
      have hk4 : n < 4 := by omega
      have hS : ∀ {sz cd}, SpF (CaB co sz cd f) (po + 15 + n) (qo n) := fun {sz cd} => (h.ca hd).cq hk4
      have hq := hQ n hlt
      rw [if_neg (by rw [nI_leI (by omega) (by omega)]; omega), p_r7 (h.ca hd), bs, p_qr (h.ca hd) rfl hk4, bs, q_g1 hS, bs, hq.2.1]
      obtain ⟨z1, c1, e1, f1⟩ := c_add (co := co) (f := f) (m := w (36 + 8 * n)) (kd := 2) (nu := nI n) (show (evQ w n).2 < 34 by omega) hr0
      have hq1 := @evA_le (evQ w n) (w (36 + 8 * n)) 2 (nI n)
      obtain ⟨z2, c2, e2, f2⟩ := c_add (co := co) (f := f) (m := w (37 + 8 * n)) (kd := 3) (nu := nI n) (by omega) f1
      have hq2 := @evA_le (evA (evQ w n) (w (36 + 8 * n)) 2 (nI n)) (w (37 + 8 * n)) 3 (nI n)
      obtain ⟨z3, c3, e3, f3⟩ := c_add (co := co) (f := f) (m := evB w n) (kd := 5) (nu := nI n) (by omega) f2
      have hq3 := @evA_le (evA (evA (evQ w n) (w (36 + 8 * n)) 2 (nI n)) (w (37 + 8 * n)) 3 (nI n)) (evB w n) 5 (nI n)
      obtain ⟨z4, c4, e4, f4⟩ := c_add (co := co) (f := f) (m := w (42 + 8 * n)) (kd := 6) (nu := nI n) (by omega) f3
      obtain ⟨z5, c5, e5, f5⟩ := ih (n + 1) z4 c4 f4 (by omega) (by omega)
      rw [e1, bs, q_g2 hS, bs, hq.2.2.1, e2, bs, q_g2 hS, bs, hq.2.2.1, c_beginOf (h.ca hd) hr hS hq, bs]
      unfold fX1_fill_106
      unfold evB at e3
      refine ⟨z5, c5, ?_, f5⟩
      by_cases cp : w (37 + 8 * n) = -1
      · rw [if_pos cp] at e3 ⊢
        rw [e3, bs, q_g7 hS, bs, hq.2.2.2.2.2.2.2.1, e4, bs, nI_1, e5]
      · rw [if_neg cp] at e3 ⊢
        rw [e3, bs, q_g7 hS, bs, hq.2.2.2.2.2.2.2.1, e4, bs, nI_1, e5]
theorem c_fill7 (h : PlF f po pi tm sr so qo tl) (hd : po + 19 ≤ co ∨ co + 2 ≤ po) (hr : LwR w pi tm sr so) (hQ : AllQ w qo) (hv : Vld w) : ∀ (N n : Nat) (sz : Int32) (cd : Nat → Int32), EvC sz cd (evSp w n) → n ≤ cS w → cS w - n < N → ∃ sz' cd', fX1_fill_7 N (CaB co sz cd f) co po (nI n) = some (CaB co sz' cd' f) ∧ EvC sz' cd' (evT w) := by
  have h8 := hv.1.1
  have h5 : pi 5 = nI (cS w) := by rw [hr.1.2.2.2.1]; exact h8.1
  intro N
  induction N with
  | zero => intro n _ _ _ _ h; omega
  | succ N ih =>
    intro n sz cd hr0 hn hN
    show ∃ sz' cd', fX1_fill_7b _ _ _ _ _ = _ ∧ _
    unfold fX1_fill_7b
    have hq := evSp_le w n
    rw [p_g5 (h.ca hd), bs, h5]
    by_cases cn : n = cS w
    · subst cn
      rw [if_pos (Int32.le_refl _)]
      exact c_fill53 h hd hr hQ hv pz_F 0 sz cd hr0 (by omega) (by have := hv.1.2.1.2; unfold pz_F; omega)
    · have hlt : n < cS w := by omega
      obtain ⟨s0, s1, s2⟩ := hr.2.2.2 n hlt
      have hj := hr.2.2.1 n (by omega)
      obtain ⟨z1, c1, e1, f1⟩ := c_add (co := co) (f := f) (m := w (11 + 3 * n)) (kd := 0) (nu := nI n) (show (evSp w n).2 < 34 by omega) hr0
      have hq1 := @evA_le (evSp w n) (w (11 + 3 * n)) 0 (nI n)
      obtain ⟨z2, c2, e2, f2⟩ := c_add (co := co) (f := f) (m := w (12 + 3 * n)) (kd := 1) (nu := nI n) (by omega) f1
      obtain ⟨z5, c5, e5, f5⟩ := ih (n + 1) z2 c2 f2 (by omega) (by omega)
      rw [if_neg (by rw [nI_leI (by omega) (by omega)]; omega), p_r4 (h.ca hd), bs, p_sr (h.ca hd) rfl (show n < 8 by omega), bs, p_s0g (h.ca hd) hj, bs, s0, e1, bs, p_r4 (h.ca hd), bs, p_sr (h.ca hd) rfl (show n < 8 by omega), bs, p_s1g (h.ca hd) hj, bs, s1, e2, bs, nI_1]
      exact ⟨z5, c5, e5, f5⟩
theorem c_fill (h : PlF f po pi tm sr so qo tl) (hd : po + 19 ≤ co ∨ co + 2 ≤ po) (hr : LwR w pi tm sr so) (hQ : AllQ w qo) (hv : Vld w) : ∃ sz' cd', fnX1_fill (CaB co sz cd f) co po = some (CaB co sz' cd' f) ∧ EvC sz' cd' (evT w) := by
  unfold fnX1_fill
  rw [k_is, bs, k_w1, bs]
  exact c_fill7 h hd hr hQ hv pz_F 0 0 cd ⟨rfl, fun j hj => absurd hj (by show ¬ j < 0; omega)⟩ (by omega) (by have := hv.1.1.2; unfold pz_F; omega)
theorem evT_le {w : Nat → Int32} (hc : Cnt w) : (evT w).2 ≤ 34 := by
  have h4 := hc.2.1.2
  have hq := evQ_le hc (cP w)
  have h1 := @evA_le (evQ w (cP w)) (w 1) 4 0
  have h2 := @evA_le (evA (evQ w (cP w)) (w 1) 4 0) (w 2) 7 0
  show (evA (evA (evQ w (cP w)) (w 1) 4 0) (w 2) 7 0).2 ≤ 34
  omega
end CAL
