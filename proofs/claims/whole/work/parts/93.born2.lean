/-! ===== the law's three objects, born ===== -/
section BORM
variable {f g : pz_H} {z xo n k : Nat} {w tp : Nat → Int32} {lf : Int32} {ws : Nat → Nat → Int32}
theorem XI.cg1 {f f' : pz_H} (h : XI f z xo w lf n k tp ws) (h2 : f'.2.1 = f.2.1) (hs : ∀ a, a < xo + 280 → f'.1 a = f.1 a) : XI f' z xo w lf n k tp ws := by
  obtain ⟨⟨a1, a2, a3, a4⟩, b, c, d, e, g, i, j⟩ := h
  have sm : ∀ b n, b + n ≤ xo + 280 → SmB f f' b n := fun b n q a h1 h2 => hs a (by omega)
  exact ⟨⟨a1, a2.cg1 h2 (fun a ha => hs a (by omega)), a3, a4⟩, by rw [hs xo (by omega)]; exact b, c.cg (sm _ _ (by omega)), d.cg (sm _ _ (by omega)), e.cg a4 (hs _ (by omega)) (sm _ _ (by omega)), g.cg (sm _ _ (by omega)), i.cg (sm _ _ (by omega)), j.cg (sm _ _ (by omega))⟩
theorem model_born (hx : f.2.2 = xo) : ∃ f' ia, fnX10_init (pz_nw f (.inl (9, [.int 0, .null, .null, .null, .int 0, .null, .int 0, .null, .null, .null, .null, .null, .int 0, .null, .int 0, .int 0, .int 0, .int 0, .int 0, .int 0, .int 0, .null]))) xo = some f' ∧ f'.2.1 = f.2.1 ∧ f'.2.2 = xo + 12 ∧ (∀ a, a < xo → f'.1 a = f.1 a) ∧ HasB f' xo 12 (MC xo (fun _ => 0) ia (fun _ _ => 0)) ∧ ia 0 = bgX 0 (fun _ => 0) := by
  subst hx
  rw [n10]
  generalize hh : QH f.2.2 [.inl (9, [.int 0, .ref (f.2.2 + 1), .ref (f.2.2 + 2), .ref (f.2.2 + 3), .int 0, .ref (f.2.2 + 4), .int 0, .ref (f.2.2 + 5), .ref (f.2.2 + 6), .ref (f.2.2 + 7), .ref (f.2.2 + 8), .ref (f.2.2 + 9), .int 0, .ref (f.2.2 + 10), .int 0, .int 0, .int 0, .int 0, .int 0, .int 0, .int 0, .ref (f.2.2 + 11)]), .inr (0, 87, .inl (fun _ => 0)), .inr (0, 1044, .inl (fun _ => 0)), .inr (0, 87, .inl (fun _ => 0)), .inr (1, 1800, .inr (.inl (fun _ => 0))), .inr (1, 1800, .inr (.inl (fun _ => 0))), .inr (1, 1800, .inr (.inl (fun _ => 0))), .inr (1, 1800, .inr (.inl (fun _ => 0))), .inr (1, 4, .inr (.inl (fun _ => 0))), .inr (0, 64, .inl (fun _ => 0)), .inr (0, 400, .inl (fun _ => 0)), .inr (0, 4, .inl (fun _ => 0))] f = h
  have hp : HasB h f.2.2 12 (MC f.2.2 (fun _ => 0) (fun _ _ => 0) (fun _ _ => 0)) := by
    rw [← hh]
    intro o ho
    match o, ho with
    | 0, _ | 1, _ | 2, _ | 3, _ | 4, _ | 5, _ | 6, _ | 7, _ | 8, _ | 9, _ | 10, _ | 11, _ => exact QH_in rfl
    | n + 12, q => omega
  have h21 : h.2.1 = f.2.1 := by rw [← hh]; rfl
  have h22 : h.2.2 = f.2.2 + 12 := by rw [← hh]; rfl
  have hlo : ∀ a, a < f.2.2 → h.1 a = f.1 a := fun a ha => by rw [← hh]; exact QH_out (Or.inl ha)
  have e := m_begins (mo := f.2.2) (iv := fun _ => 0) (ia := fun _ _ => 0) (la := fun _ _ => 0) (g := h) 0
  rw [show MH f.2.2 (fun _ => 0) (fun _ _ => 0) (fun _ _ => 0) h = h from BU_self hp] at e
  rw [e, bs]
  exact ⟨_, _, rfl, h21, h22, fun a ha => by unfold MH; rw [BU_ne (Or.inl ha)]; exact hlo a ha, fun o ho => BU_at ho, rfl⟩
theorem law_born (hs : StaF z g) (hz : z ≤ g.2.2) (hx : g.2.2 = xo) : ∃ f1 f2, fnX9_init (pz_nw g (.inl (8, [.int 0, .null, .null, .null, .int 0, .null, .null, .null]))) xo = some f1 ∧ f1.2.2 = xo + 280 ∧ fnX10_init (pz_nw f1 (.inl (9, [.int 0, .null, .null, .null, .int 0, .null, .int 0, .null, .null, .null, .null, .null, .int 0, .null, .int 0, .int 0, .int 0, .int 0, .int 0, .int 0, .int 0, .null]))) (xo + 280) = some f2 ∧ f2.2.2 = xo + 292 ∧ LI z xo (pz_nw f2 (.inr (1, 1, .inr (.inl (fun _ => 0))))) := by
  obtain ⟨f1, e1, a1, a2, a3, a4⟩ := obj_born hs hz hx (fun _ => 0)
  obtain ⟨f2, ia, e2, b1, b2, b3, b4, b5⟩ := model_born a2
  refine ⟨f1, f2, e1, a2, e2, by omega, ?_⟩
  have c1 : ∀ a, a < xo + 292 → (pz_nw f2 (.inr (1, 1, .inr (.inl (fun _ => 0))))).1 a = f2.1 a := fun a ha => up_n (by omega)
  have hv : Vld (ia 0) := by
    rw [b5]
    exact Vld_cg (Vld_bgW (b := 0) (by decide) (by decide)) (fun j hj => by show bgX _ _ j = _; unfold bgX; rw [if_pos hj])
  refine ⟨0, 0, 0, fun _ _ => 0, fun _ => 0, ia, fun _ _ => 0, ?_, ?_, ⟨hv, Or.inl rfl, rfl, rfl, rfl⟩, fun i hi => by omega, fun _ => 0, ?_⟩
  · rw [b5]
    exact (a4 (ia 4) (fun _ _ => 0)).cg1 b1 (fun a ha => (c1 a (by omega)).trans (b3 a (by omega)))
  · intro o ho
    rw [c1 _ (by omega)]; exact b4 o ho
  · rw [← show f2.2.2 = xo + 292 by omega]; exact up_s
end BORM
