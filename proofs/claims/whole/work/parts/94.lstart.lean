/-! ===== the law from its first instruction ===== -/
theorem lw_start {G : pz_G} {C : pz_C} {Q : State → Prop} {b L z xo : Nat} {xs : Nat → Int32} {g : pz_H} (W0 : LwOK G C b L xs) (hE : ∀ f n k, n ≤ 601024 → k ≤ 7293034 → ∀ lv, pz_W G C 7 1026 lv [] f n k Q) (hs : StaF z g) (hz : z ≤ g.2.2) (hx : g.2.2 = xo) : pz_W G C 7 0 [(0, .ref b)] [] g 0 0 Q := by
  obtain ⟨hC, hK, hX, hbl, hL, hlt, hXT⟩ := id W0
  obtain ⟨f1, f2, e1, e2, e3, e4, e5⟩ := law_born hs hz hx
  refine pz_new (ci := 8) (fs := [.int 0, .null, .null, .null, .int 0, .null, .null, .null]) (ty := tyX9) (T := TX9) (n' := 1) (k' := 8) hC hK dL_law_0 rfl pz_wsX9 tyX9_ok (List.mem_of_getElem? (i := 141) (by decide +kernel)) (List.mem_of_getElem? (i := 142) (by decide +kernel)) (List.mem_of_getElem? (i := 120) (by decide +kernel)) (by decide +kernel) rfl rfl ⟨Nat.le_of_ble_eq_true rfl, Nat.le_of_ble_eq_true rfl⟩ ?_
  rw [hx]
  refine pz_dup hC dL_law_3 rfl ?_
  refine pz_callI (As := []) hC hK dL_law_4 py_X9_init pi_X9_init lk_L_18 (mX9_init e1) rfl rfl (Nat.le_of_ble_eq_true rfl) ⟨by decide, by decide⟩ ⟨Nat.le_of_ble_eq_true rfl, Nat.le_of_ble_eq_true rfl⟩ ?_
  refine pz_astore_n (lv' := [(1, .ref xo), (0, .ref b)]) hC dL_law_7 (by decide) rfl ?_
  refine pz_new (ci := 9) (fs := [.int 0, .null, .null, .null, .int 0, .null, .int 0, .null, .null, .null, .null, .null, .int 0, .null, .int 0, .int 0, .int 0, .int 0, .int 0, .int 0, .int 0, .null]) (ty := tyX10) (T := TX10) (n' := 281) (k' := 9249) hC hK dL_law_8 rfl pz_wsX10 tyX10_ok (List.mem_of_getElem? (i := 996) (by decide +kernel)) (List.mem_of_getElem? (i := 997) (by decide +kernel)) (List.mem_of_getElem? (i := 128) (by decide +kernel)) (by decide +kernel) rfl rfl ⟨Nat.le_of_ble_eq_true rfl, Nat.le_of_ble_eq_true rfl⟩ ?_
  rw [e2]
  refine pz_dup hC dL_law_11 rfl ?_
  refine pz_callI (As := []) hC hK dL_law_12 py_X10_init pi_X10_init lk_L_21 (mX10_init e3) rfl rfl (Nat.le_of_ble_eq_true rfl) ⟨by decide, by decide⟩ ⟨Nat.le_of_ble_eq_true rfl, Nat.le_of_ble_eq_true rfl⟩ ?_
  refine pz_astore_n (lv' := [(2, .ref (xo + 280)), (1, .ref xo), (0, .ref b)]) hC dL_law_15 (by decide) rfl ?_
  refine pz_iconst (v := (1 : Int32)) hC dL_law_16 (by decide) ?_
  refine pz_newa (atype := .long) (ty := .long) (t := 1) (N := 1) (g := .inr (.inl (fun _ => 0))) (n' := 293) (k' := 18140) hC hK dL_law_17 (by decide) ac_1 rfl (fun G U h => (h.2 1 _ rfl).2) (fun G cA h => ⟨(1, .inr (.inl (fun _ => 0))), by rw [h]; rfl, rfl⟩) (by decide) (by decide +kernel) (by decide +kernel) rfl rfl ⟨Nat.le_of_ble_eq_true rfl, Nat.le_of_ble_eq_true rfl⟩ ?_
  rw [e4]
  refine pz_astore_n (lv' := [(3, .ref (xo + 292)), (2, .ref (xo + 280)), (1, .ref xo), (0, .ref b)]) hC dL_law_19 (by decide) rfl ?_
  refine pz_iconst (v := (0 : Int32)) hC dL_law_20 (by decide) ?_
  refine pz_istore (lv' := lwv b xo 0) hC dL_law_21 (by decide) rfl ?_
  exact lw_loop W0 hE 512 0 _ 293 18140 (by omega) (by omega) e5 (by decide) (by decide)
