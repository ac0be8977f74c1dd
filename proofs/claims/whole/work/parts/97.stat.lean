/-! ===== the static cells out of the claim's own words ===== -/
section NWS
variable {args : Array Value} {s : State}
theorem eq_ref {t u : Term} {a : Nat} (h : (Cond.eq t u).before args s = true) (hu : u.eval args s none [] s = some (.ref a)) : t.eval args s none [] s = some (.ref a) := by
  cases hv : t.eval args s none [] s with
  | none => simp [Cond.before, Cond.holds, Cond.value, hv] at h
  | some w =>
    simp only [Cond.before, Cond.holds, Cond.value, hv, hu] at h
    cases w <;> simp_all
theorem len_small {t : Term} {v : Value} {a : Nat} {cell : Cell} (h : (Term.length t).eval args s none [] s = some v) (ht : t.eval args s none [] s = some (.ref a)) (hc : s.heap[a]? = some cell) : cell.slots.size < 2147483648 := by
  obtain ⟨a', cell', h1, h2, h3⟩ := Term.length_spec h
  cases ht.symm.trans h1
  obtain ⟨h4, -⟩ := State.arrayAt?_spec h2
  cases hc.symm.trans h4
  simp only [Term.eval, Option.bind_eq_bind, ht, h2, Option.bind_some] at h
  by_cases c : cell.slots.size < 2147483648
  · exact c
  · rw [if_neg c] at h; cases h
theorem arr_strong {tm : Term} {ty : FieldType} {N : Nat} {f : Nat → Value} (hN : N < 2 ^ 31) (harr : (Cond.arrayOf tm ty).before args s = true) (hlen : (Cond.eq (.length tm) (.int (Int32.ofNat N))).before args s = true) (hel : ∀ j : Nat, j < N → (Term.elem tm (.int (Int32.ofNat j))).eval args s none [] s = some (f j)) :
    ∃ a : Nat, tm.eval args s none [] s = some (.ref a) ∧ ∃ cell : Cell, s.heap[a]? = some cell ∧ s.isArrayOf cell ty ∧ cell.vm ≠ .unknown ∧ cell.slots.size = N ∧ ∀ j : Nat, j < N → cell.slots[j]? = some (f j) := by
  have hl := va_eqt hlen
  obtain ⟨a, ht, cell, h1, h2, h3, h4, h5, h6, -⟩ := va_Tof (A := fun _ => False) hN harr hl hel (fun _ _ h => h)
  have hs := len_small hl ht h1
  refine ⟨a, ht, cell, h1, h2, h3, ?_, h6⟩
  have e1 : (Int32.ofNat cell.slots.size).toNatClampNeg = cell.slots.size := Int32.toNatClampNeg_ofNat_of_lt hs
  have e2 : (Int32.ofNat N).toNatClampNeg = N := Int32.toNatClampNeg_ofNat_of_lt hN
  have h5' : Int32.ofNat cell.slots.size = Int32.ofNat N := h5
  rw [h5', e2] at e1
  exact e1.symm
theorem row_Cn {i N t : Nat} {tm : Term} {row : Nat → Int32} (hn : ∀ c ∈ nwL, c.before args s = true) (ht : t = 10 ∨ t = 12) (hN : N < 2 ^ 31) (h : nfR i tm (pz_sty t) N row) : ∃ a : Nat, tm.eval args s none [] s = some (.ref a) ∧ Cn s a (.inr (t, N, .inl row)) := by
  obtain ⟨h1, h2, h3⟩ := h
  obtain ⟨a, e1, cell, e2⟩ := arr_strong hN (hn _ (List.mem_of_getElem? h1)) (hn _ (List.mem_of_getElem? h2)) (f := fun j => .int (row j)) (fun j hj => va_eqt (hn _ (List.mem_of_getElem? (h3 j hj))))
  exact ⟨a, e1, ht, cell, e2⟩
theorem ex_ref {t : Term} {nm : String} (h : (Cond.exactly t nm).before args s = true) : ∃ a : Nat, t.eval args s none [] s = some (.ref a) ∧ va_O nm a (fun q => s.heap.size ≤ q) s s.heap := by
  obtain ⟨a2, c, cA, kA, q1, -⟩ := Cond.exactly_spec (args := args) (first := s) (o := none) (s := s) (idx := []) (t := t) (cls := nm) h
  exact ⟨a2, q1, va_Oof h q1 (fun a ha => Nat.not_le.mpr ha)⟩
theorem str_Cn {i k : Nat} {own : String} {l : List Nat} (hn : ∀ c ∈ nwL, c.before args s = true) (hl : l.length < 2 ^ 31) (h : nfS i own k l) : ∃ a b : Nat, (Term.string own k).eval args s none [] s = some (.ref a) ∧ Cn s a (.inl (101, [.ref b, .int 0])) ∧ Cn s b (.inr (12, l.length, .inl (fun j => nI (l.getD j 0)))) := by
  obtain ⟨h1, h2, h3⟩ := h
  obtain ⟨a, e1, o1⟩ := ex_ref (hn _ (List.mem_of_getElem? h1))
  obtain ⟨b, e2, c2⟩ := row_Cn (t := 12) hn (Or.inr rfl) hl h3
  have hA : ∀ a : Nat, a < s.heap.size → ¬ (fun q => s.heap.size ≤ q) a := fun a ha => Nat.not_le.mpr ha
  refine ⟨a, b, e1, ⟨Or.inr ⟨rfl, b, rfl⟩, o1, fun k v hk => ?_⟩, c2⟩
  match k, hk with
  | 0, hk => cases hk; exact vk_OFof e1 e2 hA
  | 1, hk => cases hk; exact vk_OFof e1 (va_eqt (hn _ (List.mem_of_getElem? h2))) hA
  | n + 2, hk => cases hk
theorem verb_Cn {k : Nat} (hn : ∀ c ∈ nwL, c.before args s = true) (hk : k < 14) : ∃ a r b : Nat, (vbT k).eval args s none [] s = some (.ref a) ∧ Cn s a (.inl (100, [.ref r, .int (vbS k 0), .int (vbS k 1), .int (vbS k 2), .int (vbS k 3), .int (nI k)])) ∧ Cn s r (.inl (101, [.ref b, .int 0])) ∧ Cn s b (.inr (12, (vbW k).length, .inl (fun j => nI ((vbW k).getD j 0)))) := by
  obtain ⟨a, e1, o1⟩ := ex_ref (hn _ (List.mem_of_getElem? (nf7 k hk)))
  have hl : (vbW k).length < 2 ^ 31 := (show ∀ k, k < 14 → (vbW k).length < 2 ^ 31 by decide) k hk
  obtain ⟨r, b, e2, c2, c3⟩ := str_Cn hn hl (nf19 k hk)
  have hA : ∀ a : Nat, a < s.heap.size → ¬ (fun q => s.heap.size ≤ q) a := fun a ha => Nat.not_le.mpr ha
  refine ⟨a, r, b, e1, ⟨Or.inl ⟨rfl, r, _, _, _, _, _, rfl⟩, o1, fun j v hj => ?_⟩, c2, c3⟩
  match j, hj with
  | 0, hj => cases hj; exact vk_OFof e1 (eq_ref (hn _ (List.mem_of_getElem? (nf9 k hk))) e2) hA
  | 1, hj => cases hj; exact vk_OFof e1 (va_eqt (hn _ (List.mem_of_getElem? (nf10 k hk)))) hA
  | 2, hj => cases hj; exact vk_OFof e1 (va_eqt (hn _ (List.mem_of_getElem? (nf11 k hk)))) hA
  | 3, hj => cases hj; exact vk_OFof e1 (va_eqt (hn _ (List.mem_of_getElem? (nf12 k hk)))) hA
  | 4, hj => cases hj; exact vk_OFof e1 (va_eqt (hn _ (List.mem_of_getElem? (nf13 k hk)))) hA
  | 5, hj => cases hj; exact vk_OFof e1 (va_eqt (hn _ (List.mem_of_getElem? (nf8 k hk)))) hA
  | n + 6, hj => cases hj
theorem all_Cn (hn : ∀ c ∈ nwL, c.before args s = true) : ∃ (a : Nat) (va : Nat → Nat), nwV.eval args s none [] s = some (.ref a) ∧ Cn s a (.inr (11, 14, .inr (.inr (fun k => some (va k))))) ∧ ∀ k, k < 14 → (vbT k).eval args s none [] s = some (.ref (va k)) := by
  have hv : ∀ k : Nat, ∃ v : Nat, k < 14 → (vbT k).eval args s none [] s = some (.ref v) := by
    intro k
    by_cases hk : k < 14
    · obtain ⟨a, r, b, e, -⟩ := verb_Cn hn hk
      exact ⟨a, fun _ => e⟩
    · exact ⟨0, fun h => absurd h hk⟩
  obtain ⟨va, hva⟩ := Classical.axiomOfChoice hv
  obtain ⟨h1, h2, h3⟩ := nf4
  obtain ⟨a, e1, cell, e2, e3, e4, e5, e6⟩ := arr_strong (N := 14) (by decide) (hn _ (List.mem_of_getElem? h1)) (hn _ (List.mem_of_getElem? h2)) (f := fun j => .ref (va j)) (fun j hj => eq_ref (hn _ (List.mem_of_getElem? (h3 j hj))) (hva j hj))
  exact ⟨a, va, e1, ⟨rfl, cell, e2, e3, e4, e5, fun j hj => ⟨_, rfl, e6 j hj⟩⟩, hva⟩
/-- the statics that are read, the map of static cells -/
theorem stat_all (hn : ∀ c ∈ nwL, c.before args s = true) {cst : Nat → Option pz_E} (hc1 : ∀ a e, cst a = some e → Cn s a e) (hc2 : ∀ a e, Cn s a e → ∃ e', cst a = some e' ∧ Cn s a e') : ∃ sa : Nat → Nat, StaK (fun a => if a < s.heap.size then cst a else none) sa ∧
    (∀ (i : Nat) (q : String × String × String), pz_sF[i]? = some q → (Term.static q.1 q.2.1 q.2.2).eval args s none [] s = some (.ref (sa i))) ∧ ∀ (i : Nat) (q : String × Nat × String), pz_sK[i]? = some q → (Term.string q.1 q.2.1).eval args s none [] s = some (.ref (sa (5 + i))) := by
  have hin : ∀ a e, Cn s a e → (fun a => if a < s.heap.size then cst a else none) a = cst a := fun a e h => if_pos h.lt
  have hR : ∀ {a t n row}, Cn s a (.inr (t, n, .inl row)) → rowK (fun a => if a < s.heap.size then cst a else none) a t n row := by
    intro a t n row h
    obtain ⟨e', h1, h2⟩ := hc2 _ _ h
    obtain ⟨g', rfl, h3⟩ := h.i h2
    exact ⟨g', by rw [hin a _ h]; exact h1, h3⟩
  have hO : ∀ {a ci fs}, Cn s a (.inl (ci, fs)) → (fun a => if a < s.heap.size then cst a else none) a = some (.inl (ci, fs)) := by
    intro a ci fs h
    obtain ⟨e', h1, h2⟩ := hc2 _ _ h
    cases h.o h2
    rw [hin a _ h]; exact h1
  obtain ⟨a0, e0, c0⟩ := row_Cn (t := 10) hn (Or.inl rfl) (by decide) nf0
  obtain ⟨a1, e1, c1⟩ := row_Cn (t := 10) hn (Or.inl rfl) (by decide) nf1
  obtain ⟨a2, e2, c2⟩ := row_Cn (t := 10) hn (Or.inl rfl) (by decide) nf2
  obtain ⟨a3, e3, c3⟩ := row_Cn (t := 10) hn (Or.inl rfl) (by decide) nf3
  obtain ⟨a4, va, e4, c4, hva⟩ := all_Cn hn
  obtain ⟨a5, b5, e5, c5, d5⟩ := str_Cn hn (by decide) nf5
  obtain ⟨a6, b6, e6, c6, d6⟩ := str_Cn hn (by decide) nf6
  refine ⟨fun i => match i with | 0 => a0 | 1 => a1 | 2 => a2 | 3 => a3 | 4 => a4 | 5 => a5 | _ => a6, ⟨hR c0, hR c1, hR c2, hR c3, ?_, ⟨b5, hO c5, hR d5⟩, ⟨b6, hO c6, hR d6⟩⟩, ?_, ?_⟩
  · obtain ⟨e', h1, h2⟩ := hc2 _ _ c4
    obtain ⟨g', rfl, h3⟩ := c4.r h2
    refine ⟨g', (hin a4 _ c4).trans h1, fun k hk => ⟨va k, h3 k hk, ?_⟩⟩
    obtain ⟨a, r, b, w1, w2, w3, w4⟩ := verb_Cn hn hk
    cases w1.symm.trans (hva k hk)
    exact ⟨r, hO w2, b, hO w3, hR w4⟩
  · intro i q hq
    match i, hq with
    | 0, hq => cases hq; exact e0
    | 1, hq => cases hq; exact e1
    | 2, hq => cases hq; exact e2
    | 3, hq => cases hq; exact e3
    | 4, hq => cases hq; exact e4
    | n + 5, hq => cases hq
  · intro i q hq
    match i, hq with
    | 0, hq => cases hq; exact e5
    | 1, hq => cases hq; exact e6
    | n + 2, hq => cases hq
end NWS
