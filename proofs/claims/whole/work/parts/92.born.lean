/-! ===== the class's object, born ===== -/
section BORN
variable {f g : pz_H} {z xo k j : Nat} {fs : List Value} {v : Value} {w : Nat → Int32}
theorem StaF.cg1 {f f' : pz_H} {z : Nat} (h : StaF z f) (h2 : f'.2.1 = f.2.1) (hs : ∀ a, a < z → f'.1 a = f.1 a) : StaF z f' := by
  unfold StaF at h ⊢
  have : (fun a => if a < z then f'.1 a else none) = fun a => if a < z then f.1 a else none := by
    funext a
    by_cases q : a < z
    · rw [if_pos q, if_pos q, hs a q]
    · rw [if_neg q, if_neg q]
  rw [this, h2]; exact h
theorem up8 (b : Nat) : va_up (va_up (va_up (va_up (va_up (va_up (va_up (va_up (fun _ => none) 0 (some (b + 7))) 1 (some (b + 8))) 2 (some (b + 9))) 3 (some (b + 10))) 4 (some (b + 11))) 5 (some (b + 12))) 6 (some (b + 13))) 7 (some (b + 14)) = fun i => if i < 8 then some (b + 7 + i) else none := by
  funext i
  match i with
  | 0 | 1 | 2 | 3 | 4 | 5 | 6 | 7 => rfl
  | n + 8 => rw [if_neg (by omega)]; simp [va_up]
theorem up4 (b : Nat) : va_up (va_up (va_up (va_up (fun _ => none) 0 (some (b + 15))) 1 (some (b + 16))) 2 (some (b + 17))) 3 (some (b + 18)) = fun i => if i < 4 then some (b + 15 + i) else none := by
  funext i
  match i with
  | 0 | 1 | 2 | 3 => rfl
  | n + 4 => rw [if_neg (by omega)]; simp [va_up]
theorem plan_born (hs : StaF z f) (hz : z ≤ f.2.2) : ∃ f', fnX3_init (pz_nw f (.inl (2, [.int 0, .int 0, .int 0, .null, .null, .int 0, .int 0, .null, .int 0, .null]))) f.2.2 = some f' ∧ f'.2.1 = f.2.1 ∧ f'.2.2 = f.2.2 + 19 ∧ (∀ a, a < f.2.2 → f'.1 a = f.1 a) ∧ IsP f' f.2.2 (bgX 0 w) := by
  rw [n3, up8, up4]
  generalize hh : QH f.2.2 [.inl (2, [.int 0, .int 0, .int 0, .ref (f.2.2 + 1), .ref (f.2.2 + 2), .int 0, .int 0, .ref (f.2.2 + 3), .int 0, .ref (f.2.2 + 4)]), .inr (0, 5, .inl (fun _ => 0)), .inr (3, 8, .inr (.inr (fun i => if i < 8 then some (f.2.2 + 7 + i) else none))), .inr (4, 4, .inr (.inr (fun i => if i < 4 then some (f.2.2 + 15 + i) else none))), .inl (1, [.ref (f.2.2 + 5), .ref (f.2.2 + 6), .int 0]), .inr (0, 10, .inl (fun _ => 0)), .inr (0, 10, .inl (fun _ => 0)), .inl (5, [.int 0, .int 0, .int 0]), .inl (5, [.int 0, .int 0, .int 0]), .inl (5, [.int 0, .int 0, .int 0]), .inl (5, [.int 0, .int 0, .int 0]), .inl (5, [.int 0, .int 0, .int 0]), .inl (5, [.int 0, .int 0, .int 0]), .inl (5, [.int 0, .int 0, .int 0]), .inl (5, [.int 0, .int 0, .int 0]), .inl (6, [.int 0, .int 0, .int 0, .int 0, .int 0, .int 0, .int 0, .int 0, .int 0]), .inl (6, [.int 0, .int 0, .int 0, .int 0, .int 0, .int 0, .int 0, .int 0, .int 0]), .inl (6, [.int 0, .int 0, .int 0, .int 0, .int 0, .int 0, .int 0, .int 0, .int 0]), .inl (6, [.int 0, .int 0, .int 0, .int 0, .int 0, .int 0, .int 0, .int 0, .int 0])] f = h
  have hp : PlF h f.2.2 (fun _ => 0) (fun _ => 0) (fun i => i) (fun _ _ => 0) (fun _ _ => 0) (fun _ _ => 0) := by
    rw [← hh]
    intro o ho
    match o, ho with
    | 0, _ | 1, _ | 2, _ | 3, _ | 4, _ | 5, _ | 6, _ | 7, _ | 8, _ | 9, _ | 10, _ | 11, _ | 12, _ | 13, _ | 14, _ | 15, _ | 16, _ | 17, _ | 18, _ => exact QH_in rfl
    | n + 19, q => omega
  have h21 : h.2.1 = f.2.1 := by rw [← hh]; rfl
  have h22 : h.2.2 = f.2.2 + 19 := by rw [← hh]; rfl
  have hlo : ∀ a, a < f.2.2 → h.1 a = f.1 a := fun a ha => by rw [← hh]; exact QH_out (Or.inl ha)
  obtain ⟨pi', tm', e1, e2⟩ := c_anew hp (hs.cg1 h21 (fun a ha => hlo a (by omega))) hz (fun i hi => hi) (fun i j _ _ q => q) 0 w
  rw [e1, bs]
  exact ⟨_, rfl, h21, h22, fun a ha => by unfold PB; rw [BU_ne (Or.inl ha)]; exact hlo a ha, pi', tm', _, _, _, _, PB_plf, e2⟩
/-- a stage of the object's birth: its cells so far -/
def Zb (g f : pz_H) (xo k : Nat) (fs : List Value) : Prop := f.2.1 = g.2.1 ∧ f.2.2 = xo + k ∧ (∀ a, a < xo → f.1 a = g.1 a) ∧ f.1 xo = some (.inl (8, fs))
theorem Zs (h : Zb g f xo k fs) (j : Nat) (v : Value) (hj : j < fs.length) : ∃ f', pz_sV f xo 8 j v = some f' ∧ Zb g f' xo k (fs.set j v) ∧ ∀ a, a ≠ xo → f'.1 a = f.1 a := by
  obtain ⟨h1, h2, h3, h4⟩ := h
  refine ⟨_, sV_of h4 hj, ⟨h1, h2, fun a ha => ?_, up_s⟩, fun a ha => up_n ha⟩
  exact (up_n (by omega)).trans (h3 a ha)
theorem Z3 (h : Zb g f xo k fs) (hk : 1 ≤ k) (hs : StaF z g) (hz : z ≤ xo) : ∃ f', fnX3_init (pz_nw f (.inl (2, [.int 0, .int 0, .int 0, .null, .null, .int 0, .int 0, .null, .int 0, .null]))) f.2.2 = some f' ∧ Zb g f' xo (k + 19) fs ∧ (∀ a, a < xo + k → f'.1 a = f.1 a) ∧ IsP f' (xo + k) (bgX 0 w) := by
  obtain ⟨h1, h2, h3, h4⟩ := h
  obtain ⟨f', e1, e2, e3, e4, e5⟩ := plan_born (w := w) (f := f) (z := z) (hs.cg1 h1 (fun a ha => h3 a (by omega))) (by omega)
  rw [h2] at e3 e4 e5
  exact ⟨f', e1, ⟨e2.trans h1, by omega, fun a ha => (e4 a (by omega)).trans (h3 a ha), (e4 xo (by omega)).trans h4⟩, e4, e5⟩
theorem ZQ (h : Zb g f xo k fs) (hk : 1 ≤ k) (cs : List pz_E) : Zb g (QH f.2.2 cs f) xo (k + cs.length) fs ∧ (∀ a, a < xo + k → (QH f.2.2 cs f).1 a = f.1 a) ∧ ∀ i e, cs[i]? = some e → (QH f.2.2 cs f).1 (xo + k + i) = some e := by
  obtain ⟨h1, h2, h3, h4⟩ := h
  have ho : ∀ a, a < xo + k → (QH f.2.2 cs f).1 a = f.1 a := fun a ha => QH_out (Or.inl (by omega))
  refine ⟨⟨h1, ?_, fun a ha => (ho a (by omega)).trans (h3 a ha), (ho xo (by omega)).trans h4⟩, ho, fun i e hi => ?_⟩
  · show f.2.2 + cs.length = _; omega
  · rw [← h2]; exact QH_in hi
def gN (xo i : Nat) : Nat → Option Nat := fun j => if j < i then some (xo + 52 + 19 * j) else none
/-- the past plans' stage -/
def Zp (g f1 f : pz_H) (xo i : Nat) (fs : List Value) : Prop := Zb g f xo (52 + 19 * i) fs ∧ f.1 (xo + 39) = some (.inr (5, 12, .inr (.inr (gN xo i)))) ∧ (∀ j, j < i → AnyP f (xo + 52 + 19 * j)) ∧ ∀ a, a ≠ xo + 39 → a < xo + 52 → f.1 a = f1.1 a
theorem Zpp {β : Type} {F : pz_H → Option β} {f1 : pz_H} {i : Nat} {y : Int32} (h : Zp g f1 f xo i fs) (hs : StaF z g) (hz : z ≤ xo) (h3 : fs[3]? = some (.ref (xo + 39))) (hi : i < 12) (hy : y.toNatClampNeg = i ∧ ¬ y < 0) : ∃ f', ((pz_gR f xo 8 3).bind fun v => (fnX3_init (pz_nw f (.inl (2, [.int 0, .int 0, .int 0, .null, .null, .int 0, .int 0, .null, .int 0, .null]))) f.2.2).bind fun x => (pz_tR x v 5 2 y f.2.2).bind F) = F f' ∧ Zp g f1 f' xo (i + 1) fs := by
  obtain ⟨hZ, hA, hP, hE⟩ := h
  obtain ⟨f2, e1, e2, e3, e4⟩ := Z3 (w := fun _ => 0) hZ (by omega) hs hz
  have hsz : f.2.2 = xo + (52 + 19 * i) := hZ.2.1
  have hA2 : f2.1 (xo + 39) = some (.inr (5, 12, .inr (.inr (gN xo i)))) := (e3 _ (by omega)).trans hA
  have his : pz_is f2 f.2.2 2 = some () := by
    rw [hsz]; obtain ⟨pi, tm, sr, so, qo, tl, p1, -⟩ := e4; exact is_of p1.c0
  have ht : pz_tR f2 (xo + 39) 5 2 y f.2.2 = some (pz_up f2 (xo + 39) (.inr (5, 12, .inr (.inr (gN xo (i + 1)))))) := by
    unfold pz_tR
    rw [hA2]
    show (if 5 = 5 ∧ ¬ (y < 0 ∨ 12 ≤ y.toNatClampNeg) ∧ pz_is f2 f.2.2 2 = some () then some (pz_up f2 (xo + 39) (.inr (5, 12, .inr (.inr (va_up (gN xo i) y.toNatClampNeg (some f.2.2)))))) else none) = _
    rw [if_pos ⟨rfl, fun q => by rcases q with q | q; exact hy.2 q; omega, his⟩, hy.1, hsz]
    have : va_up (gN xo i) i (some (xo + (52 + 19 * i))) = gN xo (i + 1) := by
      funext j
      unfold gN va_up
      by_cases c : j = i
      · subst c; rw [if_pos rfl, if_pos (by omega), Nat.add_assoc]
      · rw [if_neg c]
        by_cases d : j < i
        · show (if j < i then _ else _) = _; rw [if_pos d, if_pos (by omega)]
        · show (if j < i then _ else _) = _; rw [if_neg d, if_neg (by omega)]
    rw [this]
  rw [gR_of hZ.2.2.2 h3, bs, e1, bs, ht, bs]
  refine ⟨_, rfl, ⟨e2.1, ?_, fun a ha => (up_n (by omega)).trans (e2.2.2.1 a ha), (up_n (by omega)).trans e2.2.2.2⟩, up_s, fun j hj => ?_, fun a ha hb => (up_n ha).trans ((e3 a (by omega)).trans (hE a ha hb))⟩
  · show f2.2.2 = _; rw [e2.2.1]; omega
  · by_cases c : j = i
    · subst c
      have := e4.any.cg (f' := pz_up f2 (xo + 39) (.inr (5, 12, .inr (.inr (gN xo (j + 1)))))) (fun a h1 h2 => up_n (by omega))
      rw [← Nat.add_assoc] at this
      exact this
    · exact (hP j (by omega)).cg (fun a h1 h2 => (up_n (by omega)).trans (e3 a (by omega)))
theorem obj_born (hs : StaF z g) (hz : z ≤ g.2.2) (hx : g.2.2 = xo) (w : Nat → Int32) : ∃ f', fnX9_init (pz_nw g (.inl (8, [.int 0, .null, .null, .null, .int 0, .null, .null, .null]))) xo = some f' ∧ f'.2.1 = g.2.1 ∧ f'.2.2 = xo + 280 ∧ (∀ a, a < xo → f'.1 a = g.1 a) ∧ ∀ tp ws, XI f' z xo (bgX 0 w) 0 0 0 tp ws := by
  subst hx
  generalize hg0 : pz_nw g (.inl (8, [.int 0, .null, .null, .null, .int 0, .null, .null, .null])) = f0
  have z0 : Zb g f0 g.2.2 1 [.int 0, .null, .null, .null, .int 0, .null, .null, .null] := by
    rw [← hg0]; exact ⟨rfl, rfl, fun a ha => up_n (by omega), up_s⟩
  unfold fnX9_init
  obtain ⟨f1, e1, z1, -⟩ := Zs z0 0 (.int 0) (Nat.le_of_ble_eq_true rfl)
  rw [e1, bs]
  obtain ⟨f2, e2, z2, k2, p2⟩ := Z3 (w := w) z1 (by decide) hs hz
  rw [e2, bs, show f1.2.2 = g.2.2 + 1 from z1.2.1]
  obtain ⟨f3, e3, z3, k3⟩ := Zs z2 1 (.ref (g.2.2 + 1)) (Nat.le_of_ble_eq_true rfl)
  rw [e3, bs]
  obtain ⟨f4, e4, z4, k4, p4⟩ := Z3 (w := w) z3 (by decide) hs hz
  rw [e4, bs, show f3.2.2 = g.2.2 + 20 from z3.2.1]
  obtain ⟨f5, e5, z5, k5⟩ := Zs z4 2 (.ref (g.2.2 + 20)) (Nat.le_of_ble_eq_true rfl)
  rw [e5, bs, nw_QH]
  obtain ⟨z5', k5', c5⟩ := ZQ z5 (by decide) [.inr (5, 12, .inr (.inr (fun _ => none)))]
  generalize QH f5.2.2 [.inr (5, 12, .inr (.inr (fun _ => none)))] f5 = f5b at *
  have z5' : Zb g f5b g.2.2 40 _ := z5'
  have k5' : ∀ a, a < g.2.2 + 39 → f5b.1 a = f5.1 a := k5'
  have c5 : f5b.1 (g.2.2 + 39) = some (.inr (5, 12, .inr (.inr (fun _ => none)))) := c5 0 _ rfl
  rw [show f5.2.2 = g.2.2 + 39 from z5.2.1]
  obtain ⟨f6, e6, z6, k6⟩ := Zs z5' 3 (.ref (g.2.2 + 39)) (Nat.le_of_ble_eq_true rfl)
  rw [e6, bs]
  obtain ⟨f7, e7, z7, k7⟩ := Zs z6 4 (.int 0) (Nat.le_of_ble_eq_true rfl)
  rw [e7, bs, n4, bs]
  obtain ⟨z8, k8, c8⟩ := ZQ z7 (by decide) [.inl (3, [.ref (f7.2.2 + 1), .int 0, .int 0, .int 0, .int 0, .int 0, .ref (f7.2.2 + 2), .int 0]), .inr (2, 400, .inl (fun _ => 0)), .inr (0, 4, .inl (fun _ => 0))]
  generalize QH f7.2.2 [.inl (3, [.ref (f7.2.2 + 1), .int 0, .int 0, .int 0, .int 0, .int 0, .ref (f7.2.2 + 2), .int 0]), .inr (2, 400, .inl (fun _ => 0)), .inr (0, 4, .inl (fun _ => 0))] f7 = f8 at *
  have z8 : Zb g f8 g.2.2 43 _ := z8
  have k8 : ∀ a, a < g.2.2 + 40 → f8.1 a = f7.1 a := k8
  rw [show f7.2.2 = g.2.2 + 40 from z7.2.1] at *
  obtain ⟨f9, e9, z9, k9⟩ := Zs z8 5 (.ref (g.2.2 + 40)) (Nat.le_of_ble_eq_true rfl)
  rw [e9, bs, n5, bs]
  obtain ⟨z10, k10, c10⟩ := ZQ z9 (by decide) [.inl (4, [.ref (f9.2.2 + 1), .ref (f9.2.2 + 2), .ref (f9.2.2 + 3), .ref (f9.2.2 + 4), .ref (f9.2.2 + 5), .ref (f9.2.2 + 6)]), .inr (0, 1800, .inl (fun _ => 0)), .inr (0, 1800, .inl (fun _ => 0)), .inr (0, 1800, .inl (fun _ => 0)), .inr (0, 1800, .inl (fun _ => 0)), .inr (1, 4, .inr (.inl (fun _ => 0))), .inl (6, [.int 0, .int 0, .int 0, .int 0, .int 0, .int 0, .int 0, .int 0, .int 0])]
  generalize QH f9.2.2 [.inl (4, [.ref (f9.2.2 + 1), .ref (f9.2.2 + 2), .ref (f9.2.2 + 3), .ref (f9.2.2 + 4), .ref (f9.2.2 + 5), .ref (f9.2.2 + 6)]), .inr (0, 1800, .inl (fun _ => 0)), .inr (0, 1800, .inl (fun _ => 0)), .inr (0, 1800, .inl (fun _ => 0)), .inr (0, 1800, .inl (fun _ => 0)), .inr (1, 4, .inr (.inl (fun _ => 0))), .inl (6, [.int 0, .int 0, .int 0, .int 0, .int 0, .int 0, .int 0, .int 0, .int 0])] f9 = f10 at *
  have z10 : Zb g f10 g.2.2 50 _ := z10
  have k10 : ∀ a, a < g.2.2 + 43 → f10.1 a = f9.1 a := k10
  rw [show f9.2.2 = g.2.2 + 43 from z9.2.1] at *
  obtain ⟨f11, e11, z11, k11⟩ := Zs z10 6 (.ref (g.2.2 + 43)) (Nat.le_of_ble_eq_true rfl)
  rw [e11, bs, n1, bs]
  obtain ⟨z12, k12, c12⟩ := ZQ z11 (by decide) [.inl (0, [.ref (f11.2.2 + 1), .int 0]), .inr (0, 34, .inl (fun _ => 0))]
  generalize QH f11.2.2 [.inl (0, [.ref (f11.2.2 + 1), .int 0]), .inr (0, 34, .inl (fun _ => 0))] f11 = f12 at *
  have z12 : Zb g f12 g.2.2 52 _ := z12
  have k12 : ∀ a, a < g.2.2 + 50 → f12.1 a = f11.1 a := k12
  rw [show f11.2.2 = g.2.2 + 50 from z11.2.1] at *
  obtain ⟨f13, e13, z13, k13⟩ := Zs z12 7 (.ref (g.2.2 + 50)) (Nat.le_of_ble_eq_true rfl)
  rw [e13, bs]
  have s11 : ∀ a, a ≠ g.2.2 → a < g.2.2 + 50 → f13.1 a = f11.1 a := fun a h1 h2 => (k13 a h1).trans (k12 a h2)
  have s9 : ∀ a, a ≠ g.2.2 → a < g.2.2 + 43 → f13.1 a = f9.1 a := fun a h1 h2 => (s11 a h1 (by omega)).trans ((k11 a h1).trans (k10 a h2))
  have s7 : ∀ a, a ≠ g.2.2 → a < g.2.2 + 40 → f13.1 a = f7.1 a := fun a h1 h2 => (s9 a h1 (by omega)).trans ((k9 a h1).trans (k8 a h2))
  have s5b : ∀ a, a ≠ g.2.2 → a < g.2.2 + 40 → f13.1 a = f5b.1 a := fun a h1 h2 => (s7 a h1 h2).trans ((k7 a h1).trans (k6 a h1))
  have s4 : ∀ a, a ≠ g.2.2 → a < g.2.2 + 39 → f13.1 a = f4.1 a := fun a h1 h2 => (s5b a h1 (by omega)).trans ((k5' a h2).trans (k5 a h1))
  have s2 : ∀ a, a ≠ g.2.2 → a < g.2.2 + 20 → f13.1 a = f2.1 a := fun a h1 h2 => (s4 a h1 (by omega)).trans ((k4 a h2).trans (k3 a h1))
  have q0 : Zp g f13 f13 g.2.2 0 [.int 0, .ref (g.2.2 + 1), .ref (g.2.2 + 20), .ref (g.2.2 + 39), .int 0, .ref (g.2.2 + 40), .ref (g.2.2 + 43), .ref (g.2.2 + 50)] := by
    refine ⟨z13, ?_, fun j hj => by omega, fun a _ _ => rfl⟩
    rw [s5b _ (by omega) (by omega)]
    exact c5
  obtain ⟨h0, w0, q1⟩ := Zpp (y := (0 : Int32)) q0 hs hz rfl (by decide) ⟨by decide, by decide⟩
  rw [w0]
  obtain ⟨h1, w1, q2⟩ := Zpp (y := (1 : Int32)) q1 hs hz rfl (by decide) ⟨by decide, by decide⟩
  rw [w1]
  obtain ⟨h2, w2, q3⟩ := Zpp (y := (2 : Int32)) q2 hs hz rfl (by decide) ⟨by decide, by decide⟩
  rw [w2]
  obtain ⟨h3, w3, q4⟩ := Zpp (y := (3 : Int32)) q3 hs hz rfl (by decide) ⟨by decide, by decide⟩
  rw [w3]
  obtain ⟨h4, w4, q5⟩ := Zpp (y := (4 : Int32)) q4 hs hz rfl (by decide) ⟨by decide, by decide⟩
  rw [w4]
  obtain ⟨h5, w5, q6⟩ := Zpp (y := (5 : Int32)) q5 hs hz rfl (by decide) ⟨by decide, by decide⟩
  rw [w5]
  obtain ⟨h6, w6, q7⟩ := Zpp (y := (6 : Int32)) q6 hs hz rfl (by decide) ⟨by decide, by decide⟩
  rw [w6]
  obtain ⟨h7, w7, q8⟩ := Zpp (y := (7 : Int32)) q7 hs hz rfl (by decide) ⟨by decide, by decide⟩
  rw [w7]
  obtain ⟨h8, w8, q9⟩ := Zpp (y := (8 : Int32)) q8 hs hz rfl (by decide) ⟨by decide, by decide⟩
  rw [w8]
  obtain ⟨h9, w9, q10⟩ := Zpp (y := (9 : Int32)) q9 hs hz rfl (by decide) ⟨by decide, by decide⟩
  rw [w9]
  obtain ⟨h10, w10, q11⟩ := Zpp (y := (10 : Int32)) q10 hs hz rfl (by decide) ⟨by decide, by decide⟩
  rw [w10]
  obtain ⟨h11, w11, q12⟩ := Zpp (y := (11 : Int32)) q11 hs hz rfl (by decide) ⟨by decide, by decide⟩
  rw [w11]
  refine ⟨h11, rfl, q12.1.1, q12.1.2.1, q12.1.2.2.1, fun tp ws => ?_⟩
  have E := q12.2.2.2
  have E' : ∀ a, a ≠ g.2.2 + 39 → a < g.2.2 + 52 → h11.1 a = f13.1 a := E
  refine ⟨⟨hz, hs.cg1 q12.1.1 (fun a ha => q12.1.2.2.1 a (by omega)), by decide, by decide⟩, q12.1.2.2.2, ?_, ?_, ?_, ?_, ?_, ?_⟩
  · exact p2.cg (fun a h1 h2 => (E' a (by omega) (by omega)).trans (s2 a (by omega) (by omega)))
  · exact p4.any.cg (fun a h1 h2 => (E' a (by omega) (by omega)).trans (s4 a (by omega) (by omega)))
  · refine ⟨fun i => i, fun i hi => hi, fun i j _ _ q => q, ?_, q12.2.2.1, fun i hi => by omega⟩
    exact q12.2.1
  · refine ⟨fun _ => 0, fun _ => 0, fun _ => 0, fun o ho => ?_, rfl, fun j hj => by omega⟩
    rw [E' _ (by omega) (by omega), s9 _ (by omega) (by omega), k9 _ (by omega)]
    match o, ho with
    | 0, _ => exact c8 0 _ rfl
    | 1, _ => exact c8 1 _ rfl
    | 2, _ => exact c8 2 _ rfl
    | n + 3, q => omega
  · refine ⟨fun _ _ => 0, fun _ => 0, fun _ => 0, fun o ho => ?_⟩
    rw [E' _ (by omega) (by omega), s11 _ (by omega) (by omega), k11 _ (by omega)]
    match o, ho with
    | 0, _ => exact c10 0 _ rfl
    | 1, _ => exact c10 1 _ rfl
    | 2, _ => exact c10 2 _ rfl
    | 3, _ => exact c10 3 _ rfl
    | 4, _ => exact c10 4 _ rfl
    | 5, _ => exact c10 5 _ rfl
    | 6, _ => exact c10 6 _ rfl
    | n + 7, q => omega
  · refine ⟨0, fun _ => 0, fun o ho => ?_⟩
    rw [E' _ (by omega) (by omega), k13 _ (by omega)]
    match o, ho with
    | 0, _ => exact c12 0 _ rfl
    | 1, _ => exact c12 1 _ rfl
    | n + 2, q => omega
end BORN
