/-! ===== the world at the law's entry ===== -/
section WST
variable {s : State} {b : Nat}
theorem arr_of_class {args : Array Value} {ty : FieldType} (h : (Cond.arrayClass ty).before args s = true) : ∃ c : ClassId, ArrOfT s c ty ∧ s.vm.findClass ("[" ++ ty.toString) = some c := by
  obtain ⟨c, k, comp, h1, h2, h3⟩ := Cond.arrayClass_spec h
  exact ⟨c, fun n z => ⟨(fun k h => by cases h), k, h2, comp, h3⟩, h1⟩
theorem arr_of_over {args : Array Value} {C : String} (h : (Cond.arrayOver (.object C)).before args s = true) : ∃ c : ClassId, ArrOfT s c (.object C) ∧ va_RA s c (.object C) := by
  obtain ⟨comp, c, k, h1, h2, h3, h4, h5⟩ := Cond.arrayOver_spec h
  exact ⟨c, fun n z => ⟨(fun k h => by cases h), k, h3, comp, h4⟩, k, comp, h3, h4, h1, h5⟩
theorem Cn.sat {G : pz_G} {a : Nat} {e : pz_E} (hG : G.2.2.1 = s.heap) (h : Cn s a e) : pz_sat G s a e := by
  have hA : pz_A G = fun q => s.heap.size ≤ q := by unfold pz_A pz_z; rw [hG]
  match e, h with
  | .inl (ci, fs), h =>
    obtain ⟨h1, h2, h3⟩ := h
    refine ⟨?_, by rw [hA, hG]; exact h2, fun k v hk => by rw [hA, hG]; exact h3 k v hk⟩
    rcases h1 with ⟨rfl, -⟩ | ⟨rfl, -⟩ <;> decide
  | .inr (t, n, .inl g), h =>
    obtain ⟨h1, cell, c1, c2, c3, c4, c5⟩ := h
    refine ⟨by rcases h1 with rfl | rfl <;> decide, cell, by rw [hG]; exact c1, c2, c3, Nat.le_of_eq c4.symm, (show cell.slots.size.toInt32 = n.toInt32 by rw [c4]), c5, by rw [hA]; exact Nat.not_le.mpr (Array.getElem?_eq_some_iff.mp c1).1⟩
  | .inr (t, n, .inr (.inr g)), h =>
    obtain ⟨rfl, cell, c1, c2, c3, c4, c5⟩ := h
    refine ⟨by decide, cell, by rw [hG]; exact c1, c2, c3, Nat.le_of_eq c4.symm, (show cell.slots.size.toInt32 = n.toInt32 by rw [c4]), fun j hj => ?_, by rw [hA]; exact Nat.not_le.mpr (Array.getElem?_eq_some_iff.mp c1).1⟩
    obtain ⟨r, q1, q2⟩ := c5 j hj
    show cell.slots[j]? = some (va_rf (g j))
    rw [q1]; exact q2
theorem k_known (hts : ∀ w ∈ lw_tbl, w.before #[Value.ref b] s = true) : ∃ D : va_G, ∀ (c : Nat) (q : vw_C), vwCl[c]? = some q → u_Kn s q.1 q.2.1 q.2.2 (D.1 c) (D.2 c) := by
  have h : ∀ c : Nat, ∃ d : ClassId × (Nat → Nat), ∀ q : vw_C, vwCl[c]? = some q → u_Kn s q.1 q.2.1 q.2.2 d.1 d.2 := by
    intro c
    match c with
    | 0 => obtain ⟨cC, iS, h⟩ := u_known (C := RX1) (T := TX1) (N := 2) (n := 2) hts pz_wsX1 (hts _ (List.mem_of_getElem? (i := 389) (by decide +kernel))); exact ⟨(cC, iS), fun q hq => by cases hq; exact h⟩
    | 1 => obtain ⟨cC, iS, h⟩ := u_known (C := RX2) (T := TX2) (N := 3) (n := 3) hts pz_wsX2 (hts _ (List.mem_of_getElem? (i := 160) (by decide +kernel))); exact ⟨(cC, iS), fun q hq => by cases hq; exact h⟩
    | 2 => obtain ⟨cC, iS, h⟩ := u_known (C := RX3) (T := TX3) (N := 10) (n := 10) hts pz_wsX3 (hts _ (List.mem_of_getElem? (i := 150) (by decide +kernel))); exact ⟨(cC, iS), fun q hq => by cases hq; exact h⟩
    | 3 => obtain ⟨cC, iS, h⟩ := u_known (C := RX4) (T := TX4) (N := 8) (n := 8) hts pz_wsX4 (hts _ (List.mem_of_getElem? (i := 325) (by decide +kernel))); exact ⟨(cC, iS), fun q hq => by cases hq; exact h⟩
    | 4 => obtain ⟨cC, iS, h⟩ := u_known (C := RX5) (T := TX5) (N := 6) (n := 6) hts pz_wsX5 (hts _ (List.mem_of_getElem? (i := 359) (by decide +kernel))); exact ⟨(cC, iS), fun q hq => by cases hq; exact h⟩
    | 5 => obtain ⟨cC, iS, h⟩ := u_known (C := RX6) (T := TX6) (N := 3) (n := 3) hts pz_wsX6 (hts _ (List.mem_of_getElem? (i := 178) (by decide +kernel))); exact ⟨(cC, iS), fun q hq => by cases hq; exact h⟩
    | 6 => obtain ⟨cC, iS, h⟩ := u_known (C := RX7) (T := TX7) (N := 9) (n := 9) hts pz_wsX7 (hts _ (List.mem_of_getElem? (i := 201) (by decide +kernel))); exact ⟨(cC, iS), fun q hq => by cases hq; exact h⟩
    | 7 => obtain ⟨cC, iS, h⟩ := u_known (C := RX8) (T := TX8) (N := 0) (n := 8) hts (fun w hw => nomatch hw) (hts _ (List.mem_of_getElem? (i := 555) (by decide +kernel))); exact ⟨(cC, iS), fun q hq => by cases hq; exact h⟩
    | 8 => obtain ⟨cC, iS, h⟩ := u_known (C := RX9) (T := TX9) (N := 8) (n := 8) hts pz_wsX9 (hts _ (List.mem_of_getElem? (i := 142) (by decide +kernel))); exact ⟨(cC, iS), fun q hq => by cases hq; exact h⟩
    | 9 => obtain ⟨cC, iS, h⟩ := u_known (C := RX10) (T := TX10) (N := 22) (n := 22) hts pz_wsX10 (hts _ (List.mem_of_getElem? (i := 997) (by decide +kernel))); exact ⟨(cC, iS), fun q hq => by cases hq; exact h⟩
    | n + 10 => exact ⟨(0, fun _ => 0), fun q hq => by cases hq⟩
  obtain ⟨d, hd⟩ := Classical.axiomOfChoice h
  exact ⟨(fun c => (d c).1, fun c => (d c).2), hd⟩
theorem xT_start (hts : ∀ w ∈ lw_tbl, w.before #[Value.ref b] s = true) (hn : ∀ c ∈ nwL, c.before #[Value.ref b] s = true) : xT s.heap s := by
  have hA : ∀ a : Nat, a < s.heap.size → ¬ (fun q => s.heap.size ≤ q) a := fun a ha => Nat.not_le.mpr ha
  have w : ∀ (i : Nat) (w : Cond), lw_tbl[i]? = some w → w.before #[Value.ref b] s = true := fun i w h => hts w (List.mem_of_getElem? h)
  have sr : ∀ (i k : Nat) (tx : String) (j : Nat), lw_tbl[i]? = some (Cond.stringRef RX9 k tx) → nwL[j]? = some (Cond.exactly (.string RX9 k) "java/lang/String") → ∃ a, vk_R RX9 k tx a s := by
    intro i k tx j h1 h2
    obtain ⟨a, e1, -⟩ := ex_ref (hn _ (List.mem_of_getElem? h2))
    exact ⟨a, vk_R.of (w i _ h1) e1⟩
  refine ⟨vx_Zqof (w 947 _ (by decide +kernel)) (w 136 _ (by decide +kernel)) (hn _ (List.mem_of_getElem? nf22)) hA, vx_Zqof (w 949 _ (by decide +kernel)) (w 136 _ (by decide +kernel)) (hn _ (List.mem_of_getElem? nf23)) hA, fun q hq => ?_, va_Nw.of rfl (w 924 _ (by decide +kernel)), va_Nw.of rfl (w 926 _ (by decide +kernel)), va_Nw.of rfl (w 928 _ (by decide +kernel)), va_Nw.of rfl (w 922 _ (by decide +kernel))⟩
  obtain ⟨n1, n2, n3, n4⟩ := nf24
  simp only [xS, List.mem_cons, List.not_mem_nil, or_false] at hq
  rcases hq with rfl | rfl | rfl | rfl
  · exact sr 959 _ _ 306 (by decide +kernel) n1
  · exact sr 985 _ _ 324 (by decide +kernel) n2
  · exact sr 993 _ _ 356 (by decide +kernel) n3
  · exact sr 995 _ _ 378 (by decide +kernel) n4
theorem world_start (hts : ∀ w ∈ lw_tbl, w.before #[Value.ref b] s = true) (hgv : (Jvm.Cond.and given_1 narrow_1).before #[Value.ref b] s = true) : ∃ (G : pz_G) (g : pz_H), G.2.2.1 = s.heap ∧ pz_T G s ∧ (∀ U, G.2.2.2.2.2 U → xT G.2.2.1 U) ∧ g.2.2 = s.heap.size ∧ StaF s.heap.size g ∧ pz_D G g s.heap := by
  have hn : ∀ c ∈ nwL, c.before #[Value.ref b] s = true := flat_of_before _ hgv
  have hA : ∀ a : Nat, a < s.heap.size → ¬ (fun q => s.heap.size ≤ q) a := fun a ha => Nat.not_le.mpr ha
  have w : ∀ (i : Nat) (w : Cond), lw_tbl[i]? = some w → w.before #[Value.ref b] s = true := fun i w h => hts w (List.mem_of_getElem? h)
  obtain ⟨D, hD⟩ := k_known hts
  obtain ⟨cst, hc1, hc2⟩ := cst_ex s
  obtain ⟨sa, hS, hF, hK⟩ := stat_all hn hc1 hc2
  obtain ⟨t0, a0, r0⟩ := arr_of_class (s := s) (hts _ ac_0)
  obtain ⟨t1, a1, r1⟩ := arr_of_class (s := s) (hts _ ac_1)
  obtain ⟨t2, a2, r2⟩ := arr_of_class (s := s) (hts _ ac_2)
  have w3 := w 156 (.arrayOver (.object "PartedPension$Span")) (by decide +kernel)
  have w4 := w 158 (.arrayOver (.object "PartedPension$Spouse")) (by decide +kernel)
  have w5 := w 323 (.arrayOver (.object "PartedPension$Plan")) (by decide +kernel)
  obtain ⟨t3, a3, r3⟩ := arr_of_over w3
  obtain ⟨t4, a4, r4⟩ := arr_of_over w4
  obtain ⟨t5, a5, r5⟩ := arr_of_over w5
  let dT : Nat → ClassId := fun t => match t with | 0 => t0 | 1 => t1 | 2 => t2 | 3 => t3 | 4 => t4 | _ => t5
  refine ⟨(D, dT, s.heap, cst, sa, xT s.heap), (cst, sa, s.heap.size), rfl, ⟨?_, ⟨hD, ?_⟩, ⟨?_, ?_, ?_, ?_, ?_⟩, ?_, xT_start hts hn, ?_⟩, fun U h => h, rfl, hS, ⟨rfl, rfl, Nat.le_refl _, fun a _ => rfl, fun a e ha he => ?_, fun a _ => rfl⟩⟩
  · exact fun w hm hk => pz_wk.use hk (State.WarmedH.refl s) (hts w hm)
  · intro k q hq
    match k, hq with
    | 0, hq => cases hq; exact ⟨a0, r0⟩
    | 1, hq => cases hq; exact ⟨a1, r1⟩
    | 2, hq => cases hq; exact ⟨a2, r2⟩
    | 3, hq => cases hq; exact ⟨a3, r3⟩
    | 4, hq => cases hq; exact ⟨a4, r4⟩
    | 5, hq => cases hq; exact ⟨a5, r5⟩
    | n + 6, hq => cases hq
  · exact fun a e _ he => (hc1 a e he).sat rfl
  · intro i q hq
    have hv := hF i q hq
    match i, hq with
    | 0, hq => cases hq; exact va_Zref (w 265 _ (by decide +kernel)) (w 120 _ (by decide +kernel)) hv hA
    | 1, hq => cases hq; exact va_Zref (w 585 _ (by decide +kernel)) (w 120 _ (by decide +kernel)) hv hA
    | 2, hq => cases hq; exact va_Zref (w 583 _ (by decide +kernel)) (w 120 _ (by decide +kernel)) hv hA
    | 3, hq => cases hq; exact va_Zref (w 558 _ (by decide +kernel)) (w 135 _ (by decide +kernel)) hv hA
    | 4, hq => cases hq; exact va_Zref (w 495 _ (by decide +kernel)) (w 130 _ (by decide +kernel)) hv hA
    | n + 5, hq => cases hq
  · intro i q hq
    have hv := hK i q hq
    match i, hq with
    | 0, hq => cases hq; exact vk_R.of (w 577 _ (by decide +kernel)) hv
    | 1, hq => cases hq; exact vk_R.of (w 578 _ (by decide +kernel)) hv
    | n + 2, hq => cases hq
  · intro i q hq
    match i, hq with
    | 0, hq => cases hq; exact va_Zof (w 509 _ (by decide +kernel)) (w 131 _ (by decide +kernel)) (va_eqt (hn _ (List.mem_of_getElem? nf20))) hA
    | n + 1, hq => cases hq
  · exact va_Zqof (w 525 _ (by decide +kernel)) (w 133 _ (by decide +kernel)) (hn _ (List.mem_of_getElem? nf21)) hA
  · intro i h3 h6 q hq C hC
    match i, h3, h6, hq with
    | 3, _, _, hq => cases hq; cases hC; exact va_AO.of w3
    | 4, _, _, hq => cases hq; cases hC; exact va_AO.of w4
    | 5, _, _, hq => cases hq; cases hC; exact va_AO.of w5
    | n + 6, _, h6, _ => omega
  · exact fun u V hW h => h.warm hW
  · exact absurd (hc1 a e he).lt (by have : s.heap.size ≤ a := ha; omega)
end WST
