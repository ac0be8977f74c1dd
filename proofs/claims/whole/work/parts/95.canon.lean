/-! ===== what is static: cells known by their contents ===== -/
/-- the cell a holds e, so that e can be told from the cell -/
def Cn (s : State) (a : Nat) : pz_E → Prop := fun e => match e with
  | .inl (ci, fs) => ((ci = 100 ∧ ∃ (r : Nat) (i1 i2 i3 i4 i5 : Int32), fs = [.ref r, .int i1, .int i2, .int i3, .int i4, .int i5]) ∨ (ci = 101 ∧ ∃ r : Nat, fs = [.ref r, .int 0])) ∧ va_O (pz_sC ci) a (fun q => s.heap.size ≤ q) s s.heap ∧ ∀ (k : Nat) (v : Value), fs[k]? = some v → va_OF (pz_sT ci k).1 (pz_sT ci k).2.1 (pz_sT ci k).2.2 v a (fun q => s.heap.size ≤ q) s s.heap
  | .inr (t, n, .inl g) => (t = 10 ∨ t = 12) ∧ ∃ cell : Cell, s.heap[a]? = some cell ∧ s.isArrayOf cell (pz_sty t) ∧ cell.vm ≠ .unknown ∧ cell.slots.size = n ∧ ∀ j : Nat, j < n → cell.slots[j]? = some (.int (g j))
  | .inr (_, _, .inr (.inl _)) => False
  | .inr (t, n, .inr (.inr g)) => t = 11 ∧ ∃ cell : Cell, s.heap[a]? = some cell ∧ s.isArrayOf cell (pz_sty 11) ∧ cell.vm ≠ .unknown ∧ cell.slots.size = n ∧ ∀ j : Nat, j < n → ∃ r, g j = some r ∧ cell.slots[j]? = some (.ref r)
section CNS
variable {s : State} {a t n ci : Nat} {e : pz_E} {fs : List Value} {g : Nat → Int32} {gr : Nat → Option Nat}
theorem arr_fun {cell : Cell} {t1 t2 : FieldType} (h1 : s.isArrayOf cell t1) (h2 : s.isArrayOf cell t2) : t1 = t2 := by
  obtain ⟨-, k1, e1, c1, d1⟩ := h1
  obtain ⟨-, k2, e2, c2, d2⟩ := h2
  cases e1.symm.trans e2
  rw [d1] at d2
  cases d2
  rfl
theorem OF_fun {o n d : String} {v v' : Value} {A : Nat → Prop} {H : Heap} (h1 : va_OF o n d v a A s H) (h2 : va_OF o n d v' a A s H) : v = v' := by
  obtain ⟨cf, k, i, f, cell, p1, p2, p3, p4, p5, p6⟩ := h1
  obtain ⟨cf', k', i', f', cell', q1, q2, q3, q4, q5, q6⟩ := h2
  cases p1.symm.trans q1
  cases p3.symm.trans q3
  exact Option.some.inj (p5.symm.trans q5)
theorem Cn.lt (h : Cn s a e) : a < s.heap.size := by
  match e, h with
  | .inl (ci, fs), h => obtain ⟨-, ⟨cell, h1, -⟩, -⟩ := h; exact (Array.getElem?_eq_some_iff.mp h1).1
  | .inr (t, n, .inl g), h => obtain ⟨-, cell, h1, -⟩ := h; exact (Array.getElem?_eq_some_iff.mp h1).1
  | .inr (t, n, .inr (.inr g)), h => obtain ⟨-, cell, h1, -⟩ := h; exact (Array.getElem?_eq_some_iff.mp h1).1
theorem obj_ref (h : Cn s a (.inl (ci, fs))) : ∃ (cell : Cell) (i r : Nat), s.heap[a]? = some cell ∧ cell.slots[i]? = some (.ref r) := by
  obtain ⟨h1, -, h3⟩ := h
  rcases h1 with ⟨rfl, r, i1, i2, i3, i4, i5, rfl⟩ | ⟨rfl, r, rfl⟩
  · obtain ⟨cf, k, i, f, cell, p1, p2, p3, p4, p5, p6⟩ := h3 0 _ rfl
    exact ⟨cell, _, r, p3, p5⟩
  · obtain ⟨cf, k, i, f, cell, p1, p2, p3, p4, p5, p6⟩ := h3 0 _ rfl
    exact ⟨cell, _, r, p3, p5⟩
theorem obj_int (h : Cn s a (.inl (ci, fs))) : ∃ (cell : Cell) (i : Nat) (x : Int32), s.heap[a]? = some cell ∧ cell.slots[i]? = some (.int x) := by
  obtain ⟨h1, -, h3⟩ := h
  rcases h1 with ⟨rfl, r, i1, i2, i3, i4, i5, rfl⟩ | ⟨rfl, r, rfl⟩
  · obtain ⟨cf, k, i, f, cell, p1, p2, p3, p4, p5, p6⟩ := h3 1 _ rfl
    exact ⟨cell, _, _, p3, p5⟩
  · obtain ⟨cf, k, i, f, cell, p1, p2, p3, p4, p5, p6⟩ := h3 1 _ rfl
    exact ⟨cell, _, _, p3, p5⟩
theorem no_oi (h : Cn s a (.inl (ci, fs))) (h' : Cn s a (.inr (t, n, .inl g))) : False := by
  obtain ⟨cell, i, r, p1, p2⟩ := obj_ref h
  obtain ⟨-, cell', q1, q2, q3, q4, q5⟩ := h'
  cases p1.symm.trans q1
  have hi := (Array.getElem?_eq_some_iff.mp p2).1
  rw [q4] at hi
  cases p2.symm.trans (q5 i hi)
theorem no_or (h : Cn s a (.inl (ci, fs))) (h' : Cn s a (.inr (t, n, .inr (.inr gr)))) : False := by
  obtain ⟨cell, i, x, p1, p2⟩ := obj_int h
  obtain ⟨-, cell', q1, q2, q3, q4, q5⟩ := h'
  cases p1.symm.trans q1
  have hi := (Array.getElem?_eq_some_iff.mp p2).1
  rw [q4] at hi
  obtain ⟨r, -, q6⟩ := q5 i hi
  cases p2.symm.trans q6
theorem no_ir {t' n' : Nat} (h : Cn s a (.inr (t', n', .inl g))) (h' : Cn s a (.inr (t, n, .inr (.inr gr)))) : False := by
  obtain ⟨ht, cell, p1, p2, -⟩ := h
  obtain ⟨-, cell', q1, q2, -⟩ := h'
  cases p1.symm.trans q1
  have := arr_fun p2 q2
  rcases ht with rfl | rfl <;> exact absurd this (by decide)
theorem Cn.i (h : Cn s a (.inr (t, n, .inl g))) (h' : Cn s a e) : ∃ g', e = .inr (t, n, .inl g') ∧ ∀ j, j < n → g' j = g j := by
  match e, h' with
  | .inl (ci, fs), h' => exact (no_oi h' h).elim
  | .inr (t', n', .inr (.inr g')), h' => exact (no_ir h h').elim
  | .inr (t', n', .inl g'), h' =>
    obtain ⟨ht, cell, p1, p2, p3, p4, p5⟩ := h
    obtain ⟨ht', cell', q1, q2, q3, q4, q5⟩ := h'
    cases p1.symm.trans q1
    have e1 : n' = n := q4.symm.trans p4
    subst e1
    have e2 := arr_fun p2 q2
    have e3 : t' = t := by
      rcases ht with rfl | rfl <;> rcases ht' with rfl | rfl
      · rfl
      · exact absurd e2 (by decide)
      · exact absurd e2 (by decide)
      · rfl
    subst e3
    exact ⟨g', rfl, fun j hj => Value.int.inj (Option.some.inj ((q5 j hj).symm.trans (p5 j hj)))⟩
theorem Cn.r (h : Cn s a (.inr (t, n, .inr (.inr gr)))) (h' : Cn s a e) : ∃ g', e = .inr (t, n, .inr (.inr g')) ∧ ∀ j, j < n → g' j = gr j := by
  match e, h' with
  | .inl (ci, fs), h' => exact (no_or h' h).elim
  | .inr (t', n', .inl g'), h' => exact (no_ir h' h).elim
  | .inr (t', n', .inr (.inr g')), h' =>
    obtain ⟨rfl, cell, p1, p2, p3, p4, p5⟩ := h
    obtain ⟨rfl, cell', q1, q2, q3, q4, q5⟩ := h'
    cases p1.symm.trans q1
    have e1 : n' = n := q4.symm.trans p4
    subst e1
    refine ⟨g', rfl, fun j hj => ?_⟩
    obtain ⟨r, h1, h2⟩ := p5 j hj
    obtain ⟨r', h1', h2'⟩ := q5 j hj
    cases h2.symm.trans h2'
    rw [h1, h1']
theorem Cn.o (h : Cn s a (.inl (ci, fs))) (h' : Cn s a e) : e = .inl (ci, fs) := by
  match e, h' with
  | .inr (t', n', .inl g'), h' => exact (no_oi h h').elim
  | .inr (t', n', .inr (.inr g')), h' => exact (no_or h h').elim
  | .inl (ci', fs'), h' =>
    obtain ⟨h1, ⟨c1, o1, o2, o3, o4⟩, h3⟩ := h
    obtain ⟨h1', ⟨c1', o1', o2', o3', o4'⟩, h3'⟩ := h'
    cases o1.symm.trans o1'
    obtain ⟨k1, n1, m1⟩ := Vm.findClass_spec o3
    obtain ⟨k2, n2, m2⟩ := Vm.findClass_spec o3'
    cases n1.symm.trans n2
    have hn : pz_sC ci = pz_sC ci' := m1.symm.trans m2
    rcases h1 with ⟨rfl, r, i1, i2, i3, i4, i5, rfl⟩ | ⟨rfl, r, rfl⟩ <;> rcases h1' with ⟨rfl, r', i1', i2', i3', i4', i5', rfl⟩ | ⟨rfl, r', rfl⟩
    · cases OF_fun (h3 0 _ rfl) (h3' 0 _ rfl)
      cases OF_fun (h3 1 _ rfl) (h3' 1 _ rfl)
      cases OF_fun (h3 2 _ rfl) (h3' 2 _ rfl)
      cases OF_fun (h3 3 _ rfl) (h3' 3 _ rfl)
      cases OF_fun (h3 4 _ rfl) (h3' 4 _ rfl)
      cases OF_fun (h3 5 _ rfl) (h3' 5 _ rfl)
      rfl
    · exact absurd hn (by decide)
    · exact absurd hn (by decide)
    · cases OF_fun (h3 0 _ rfl) (h3' 0 _ rfl)
      rfl
theorem cst_ex (s : State) : ∃ cst : Nat → Option pz_E, (∀ a e, cst a = some e → Cn s a e) ∧ ∀ a e, Cn s a e → ∃ e', cst a = some e' ∧ Cn s a e' := by
  have : ∀ a, ∃ o : Option pz_E, (∀ e, o = some e → Cn s a e) ∧ ∀ e, Cn s a e → ∃ e', o = some e' ∧ Cn s a e' := by
    intro a
    by_cases h : ∃ e, Cn s a e
    · obtain ⟨e, he⟩ := h
      exact ⟨some e, fun e' q => by cases q; exact he, fun _ _ => ⟨e, rfl, he⟩⟩
    · exact ⟨none, (fun e' q => nomatch q), fun e he => (h ⟨e, he⟩).elim⟩
  obtain ⟨cst, hc⟩ := Classical.axiomOfChoice this
  exact ⟨cst, fun a => (hc a).1, fun a => (hc a).2⟩
end CNS
