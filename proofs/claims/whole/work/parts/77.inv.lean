/-! ===== the class's whole state in the heap ===== -/
def HasB (f : pz_H) (b n : Nat) (C : Nat → Option pz_E) : Prop := ∀ o, o < n → f.1 (b + o) = C o
/-- the heaps are alike on a stretch; outside of one -/
def SmB (f f' : pz_H) (b n : Nat) : Prop := ∀ a, b ≤ a → a < b + n → f'.1 a = f.1 a
def OuB (f f' : pz_H) (b n : Nat) : Prop := f'.2 = f.2 ∧ ∀ a, a < b ∨ b + n ≤ a → f'.1 a = f.1 a
theorem OuB.bu {f : pz_H} {b n : Nat} {C : Nat → Option pz_E} : OuB f (BU b n C f) b n := ⟨rfl, fun _ h => BU_ne h⟩
theorem OuB.sm {f f' : pz_H} {b n b' n' : Nat} (h : OuB f f' b n) (hd : b' + n' ≤ b ∨ b + n ≤ b') : SmB f f' b' n' := fun a h1 h2 => h.2 a (by omega)
theorem OuB.wd {f f' : pz_H} {b n b' n' : Nat} (h : OuB f f' b n) (h1 : b' ≤ b) (h2 : b + n ≤ b' + n') : OuB f f' b' n' := ⟨h.1, fun a ha => h.2 a (by omega)⟩
theorem OuB.tr {f f' f'' : pz_H} {b n : Nat} (h : OuB f f' b n) (h2 : OuB f' f'' b n) : OuB f f'' b n := ⟨h2.1.trans h.1, fun a ha => (h2.2 a ha).trans (h.2 a ha)⟩
theorem OuB.rf {f : pz_H} {b n : Nat} : OuB f f b n := ⟨rfl, fun _ _ => rfl⟩
theorem HasB.cg {f f' : pz_H} {b n : Nat} {C : Nat → Option pz_E} (h : HasB f b n C) (hs : SmB f f' b n) : HasB f' b n C := fun o ho => by rw [hs (b + o) (by omega) (by omega)]; exact h o ho
theorem StaF.cg {f f' : pz_H} {z : Nat} (h : StaF z f) (h2 : f'.2 = f.2) (hs : ∀ a, a < z → f'.1 a = f.1 a) : StaF z f' := by
  unfold StaF at h ⊢
  have : (fun a => if a < z then f'.1 a else none) = fun a => if a < z then f.1 a else none := by
    funext a
    by_cases q : a < z
    · rw [if_pos q, if_pos q, hs a q]
    · rw [if_neg q, if_neg q]
  rw [this, h2]; exact h
def srOK (sr : Nat → Nat) : Prop := (∀ i, i < 8 → sr i < 8) ∧ ∀ i j, i < 8 → j < 8 → sr i = sr j → i = j
def AnyP (f : pz_H) (po : Nat) : Prop := ∃ pi tm sr so qo tl, PlF f po pi tm sr so qo tl ∧ srOK sr
def IsP (f : pz_H) (po : Nat) (w : Nat → Int32) : Prop := ∃ pi tm sr so qo tl, PlF f po pi tm sr so qo tl ∧ PlnR w pi tm sr so qo tl
def IsR (f : pz_H) (eo : Nat) (tp : Nat → Int32) (n : Nat) : Prop := ∃ rv bt vs, HasB f eo 3 (EC eo rv bt vs) ∧ rv 1 = nI n ∧ TpR bt tp n
def IsK (f : pz_H) (ro : Nat) : Prop := ∃ ra ow ch, RkF f ro ra ow ch
def IsC (f : pz_H) (co : Nat) : Prop := ∃ sz cd, HasB f co 2 (CaC co sz cd)
theorem IsP.any {f : pz_H} {po : Nat} {w : Nat → Int32} (h : IsP f po w) : AnyP f po := by
  obtain ⟨pi, tm, sr, so, qo, tl, h1, h2⟩ := h
  exact ⟨pi, tm, sr, so, qo, tl, h1, h2.1.2.2.1, h2.2.2.2⟩
theorem AnyP.cg {f f' : pz_H} {po : Nat} (h : AnyP f po) (hs : SmB f f' po 19) : AnyP f' po := by
  obtain ⟨pi, tm, sr, so, qo, tl, h1, h2⟩ := h
  exact ⟨pi, tm, sr, so, qo, tl, HasB.cg h1 hs, h2⟩
theorem IsP.cg {f f' : pz_H} {po : Nat} {w : Nat → Int32} (h : IsP f po w) (hs : SmB f f' po 19) : IsP f' po w := by
  obtain ⟨pi, tm, sr, so, qo, tl, h1, h2⟩ := h
  exact ⟨pi, tm, sr, so, qo, tl, HasB.cg h1 hs, h2⟩
theorem IsR.cg {f f' : pz_H} {eo n : Nat} {tp : Nat → Int32} (h : IsR f eo tp n) (hs : SmB f f' eo 3) : IsR f' eo tp n := by
  obtain ⟨rv, bt, vs, h1, h2⟩ := h
  exact ⟨rv, bt, vs, h1.cg hs, h2⟩
theorem IsK.cg {f f' : pz_H} {ro : Nat} (h : IsK f ro) (hs : SmB f f' ro 7) : IsK f' ro := by
  obtain ⟨ra, ow, ch, h1⟩ := h
  exact ⟨ra, ow, ch, HasB.cg h1 hs⟩
theorem IsC.cg {f f' : pz_H} {co : Nat} (h : IsC f co) (hs : SmB f f' co 2) : IsC f' co := by
  obtain ⟨sz, cd, h1⟩ := h
  exact ⟨sz, cd, h1.cg hs⟩
/-- the object's own cell; the row of past plans -/
def ObC (xo : Nat) (lf pc : Int32) : Option pz_E := some (.inl (8, [.int lf, .ref (xo + 1), .ref (xo + 20), .ref (xo + 39), .int pc, .ref (xo + 40), .ref (xo + 43), .ref (xo + 50)]))
def PaC (xo : Nat) (pr : Nat → Nat) : Option pz_E := some (.inr (5, 12, .inr (.inr fun i => if i < 12 then some (xo + 52 + 19 * pr i) else none)))
def OB (xo : Nat) (lf pc : Int32) (f : pz_H) : pz_H := BU xo 1 (fun _ => ObC xo lf pc) f
def AB (xo : Nat) (pr : Nat → Nat) (f : pz_H) : pz_H := BU (xo + 39) 1 (fun _ => PaC xo pr) f
/-- the past plans -/
def PstI (f : pz_H) (xo k : Nat) (ws : Nat → Nat → Int32) : Prop := ∃ pr, (∀ i, i < 12 → pr i < 12) ∧ (∀ i j, i < 12 → j < 12 → pr i = pr j → i = j) ∧ f.1 (xo + 39) = PaC xo pr ∧ (∀ j, j < 12 → AnyP f (xo + 52 + 19 * j)) ∧ ∀ i, i < k → IsP f (xo + 52 + 19 * pr i) (ws i)
def XI (f : pz_H) (z xo : Nat) (w : Nat → Int32) (lf : Int32) (n k : Nat) (tp : Nat → Int32) (ws : Nat → Nat → Int32) : Prop :=
  (z ≤ xo ∧ StaF z f ∧ n ≤ 400 ∧ k ≤ 12) ∧ f.1 xo = ObC xo lf (nI k) ∧ IsP f (xo + 1) w ∧ AnyP f (xo + 20) ∧ PstI f xo k ws ∧ IsR f (xo + 40) tp n ∧ IsK f (xo + 43) ∧ IsC f (xo + 50)
theorem PstI.cg {f f' : pz_H} {xo k : Nat} {ws : Nat → Nat → Int32} (h : PstI f xo k ws) (hk : k ≤ 12) (h1 : f'.1 (xo + 39) = f.1 (xo + 39)) (h2 : SmB f f' (xo + 52) 228) : PstI f' xo k ws := by
  obtain ⟨pr, p1, p2, p3, p4, p5⟩ := h
  refine ⟨pr, p1, p2, by rw [h1]; exact p3, fun j hj => (p4 j hj).cg (fun a ha hb => h2 a (by omega) (by omega)), fun i hi => (p5 i hi).cg (fun a ha hb => by have := p1 i (by omega); exact h2 a (by omega) (by omega))⟩
section XIS
variable {f f' : pz_H} {z xo n k : Nat} {w tp : Nat → Int32} {lf : Int32} {ws : Nat → Nat → Int32}
theorem XI.cg (h : XI f z xo w lf n k tp ws) (h2 : f'.2 = f.2) (hs : ∀ a, a < xo + 280 → f'.1 a = f.1 a) : XI f' z xo w lf n k tp ws := by
  obtain ⟨⟨a1, a2, a3, a4⟩, b, c, d, e, g, i, j⟩ := h
  have sm : ∀ b n, b + n ≤ xo + 280 → SmB f f' b n := fun b n q a h1 h2 => hs a (by omega)
  exact ⟨⟨a1, a2.cg h2 (fun a ha => hs a (by omega)), a3, a4⟩, by rw [hs xo (by omega)]; exact b, c.cg (sm _ _ (by omega)), d.cg (sm _ _ (by omega)), e.cg a4 (hs _ (by omega)) (sm _ _ (by omega)), g.cg (sm _ _ (by omega)), i.cg (sm _ _ (by omega)), j.cg (sm _ _ (by omega))⟩
/-- a change in one place -/
theorem XI.rk (h : XI f z xo w lf n k tp ws) (ho : OuB f f' (xo + 43) 7) (hk : IsK f' (xo + 43)) : XI f' z xo w lf n k tp ws := by
  obtain ⟨⟨a1, a2, a3, a4⟩, b, c, d, e, g, i, j⟩ := h
  exact ⟨⟨a1, a2.cg ho.1 (fun a ha => ho.2 a (by omega)), a3, a4⟩, by rw [ho.2 xo (by omega)]; exact b, c.cg (ho.sm (by omega)), d.cg (ho.sm (by omega)), e.cg a4 (ho.2 _ (by omega)) (ho.sm (by omega)), g.cg (ho.sm (by omega)), hk, j.cg (ho.sm (by omega))⟩
theorem XI.ca (h : XI f z xo w lf n k tp ws) (ho : OuB f f' (xo + 50) 2) (hk : IsC f' (xo + 50)) : XI f' z xo w lf n k tp ws := by
  obtain ⟨⟨a1, a2, a3, a4⟩, b, c, d, e, g, i, j⟩ := h
  exact ⟨⟨a1, a2.cg ho.1 (fun a ha => ho.2 a (by omega)), a3, a4⟩, by rw [ho.2 xo (by omega)]; exact b, c.cg (ho.sm (by omega)), d.cg (ho.sm (by omega)), e.cg a4 (ho.2 _ (by omega)) (ho.sm (by omega)), g.cg (ho.sm (by omega)), i.cg (ho.sm (by omega)), hk⟩
theorem XI.rd {n' : Nat} {tp' : Nat → Int32} (h : XI f z xo w lf n k tp ws) (ho : OuB f f' (xo + 40) 3) (hn : n' ≤ 400) (hk : IsR f' (xo + 40) tp' n') : XI f' z xo w lf n' k tp' ws := by
  obtain ⟨⟨a1, a2, a3, a4⟩, b, c, d, e, g, i, j⟩ := h
  exact ⟨⟨a1, a2.cg ho.1 (fun a ha => ho.2 a (by omega)), hn, a4⟩, by rw [ho.2 xo (by omega)]; exact b, c.cg (ho.sm (by omega)), d.cg (ho.sm (by omega)), e.cg a4 (ho.2 _ (by omega)) (ho.sm (by omega)), hk, i.cg (ho.sm (by omega)), j.cg (ho.sm (by omega))⟩
theorem XI.pl {w' : Nat → Int32} (h : XI f z xo w lf n k tp ws) (ho : OuB f f' (xo + 1) 19) (hk : IsP f' (xo + 1) w') : XI f' z xo w' lf n k tp ws := by
  obtain ⟨⟨a1, a2, a3, a4⟩, b, c, d, e, g, i, j⟩ := h
  exact ⟨⟨a1, a2.cg ho.1 (fun a ha => ho.2 a (by omega)), a3, a4⟩, by rw [ho.2 xo (by omega)]; exact b, hk, d.cg (ho.sm (by omega)), e.cg a4 (ho.2 _ (by omega)) (ho.sm (by omega)), g.cg (ho.sm (by omega)), i.cg (ho.sm (by omega)), j.cg (ho.sm (by omega))⟩
theorem XI.tr (h : XI f z xo w lf n k tp ws) (ho : OuB f f' (xo + 20) 19) (hk : AnyP f' (xo + 20)) : XI f' z xo w lf n k tp ws := by
  obtain ⟨⟨a1, a2, a3, a4⟩, b, c, d, e, g, i, j⟩ := h
  exact ⟨⟨a1, a2.cg ho.1 (fun a ha => ho.2 a (by omega)), a3, a4⟩, by rw [ho.2 xo (by omega)]; exact b, c.cg (ho.sm (by omega)), hk, e.cg a4 (ho.2 _ (by omega)) (ho.sm (by omega)), g.cg (ho.sm (by omega)), i.cg (ho.sm (by omega)), j.cg (ho.sm (by omega))⟩
theorem XI.ob {lf' : Int32} {k' : Nat} {ws' : Nat → Nat → Int32} (h : XI f z xo w lf n k tp ws) (ho : OuB f f' xo 1) (hk : f'.1 xo = ObC xo lf' (nI k')) (hk' : k' ≤ k) (hw : ∀ i, i < k' → ws' i = ws i) : XI f' z xo w lf' n k' tp ws' := by
  obtain ⟨⟨a1, a2, a3, a4⟩, b, c, d, e, g, i, j⟩ := h
  refine ⟨⟨a1, a2.cg ho.1 (fun a ha => ho.2 a (by omega)), a3, by omega⟩, hk, c.cg (ho.sm (by omega)), d.cg (ho.sm (by omega)), ?_, g.cg (ho.sm (by omega)), i.cg (ho.sm (by omega)), j.cg (ho.sm (by omega))⟩
  obtain ⟨pr, p1, p2, p3, p4, p5⟩ := e
  exact ⟨pr, p1, p2, by rw [ho.2 _ (by omega)]; exact p3, fun j hj => (p4 j hj).cg (ho.sm (by omega)), fun i hi => by rw [hw i hi]; exact (p5 i (by omega)).cg (ho.sm (by omega))⟩
theorem XI.pst {k' : Nat} {ws' : Nat → Nat → Int32} (h : XI f z xo w lf n k tp ws) (h2 : f'.2 = f.2) (hs : ∀ a, a < xo ∨ (xo < a ∧ a < xo + 39) ∨ (xo + 40 ≤ a ∧ a < xo + 52) → f'.1 a = f.1 a) (hk : f'.1 xo = ObC xo lf (nI k')) (h12 : k' ≤ 12) (hp : PstI f' xo k' ws') : XI f' z xo w lf n k' tp ws' := by
  obtain ⟨⟨a1, a2, a3, a4⟩, b, c, d, e, g, i, j⟩ := h
  exact ⟨⟨a1, a2.cg h2 (fun a ha => hs a (by omega)), a3, h12⟩, hk, c.cg (fun a x y => hs a (by omega)), d.cg (fun a x y => hs a (by omega)), hp, g.cg (fun a x y => hs a (by omega)), i.cg (fun a x y => hs a (by omega)), j.cg (fun a x y => hs a (by omega))⟩
end XIS
