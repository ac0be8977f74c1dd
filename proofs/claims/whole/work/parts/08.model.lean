def fX10_in_15 (s0 : Int32) : Option Int32 :=
  pz_b s0
theorem tX10_in_15 {G : pz_G} {C : pz_C} {f : pz_H} {s0 : Int32} {r : Int32} (hC : pz_OK G C cX10_in 3 RX10) (hK : pz_K C (some .boolean) 0 0 0 0) (hf : fX10_in_15 s0 = some r) : pz_W G C 3 15 [] [.int s0] f 0 0 (pz_Q G C (some (.int r)) f 0 0) := by
  unfold fX10_in_15 at hf
  exact pz_zret hC hK dX10_in_15 hf
def fX10_in_14 : Option Int32 :=
  fX10_in_15 ((0 : Int32))
theorem tX10_in_14 {G : pz_G} {C : pz_C} {f : pz_H} {r : Int32} (hC : pz_OK G C cX10_in 3 RX10) (hK : pz_K C (some .boolean) 0 0 0 0) (hf : fX10_in_14 = some r) : pz_W G C 3 14 [] [] f 0 0 (pz_Q G C (some (.int r)) f 0 0) := by
  unfold fX10_in_14 at hf
  refine pz_iconst (v := (0 : Int32)) hC dX10_in_14 (by decide) ?_
  exact tX10_in_15 hC hK hf
def fnX10_in (p0 : Int32) (p1 : Int32) (p2 : Int32) : Option Int32 :=
  if p0 < p1 then fX10_in_14 else
  if p2 < p0 then fX10_in_14 else
  fX10_in_15 ((1 : Int32))
theorem mX10_in {l : Launch} {G : pz_G} {f : pz_H} {p0 : Int32} {p1 : Int32} {p2 : Int32} {r : Int32} (hf : fnX10_in p0 p1 p2 = some r) : pz_Met l G yX10_in cX10_in 3 (some .boolean) 0 0 0 0 [.int p0, .int p1, .int p2] f (some (.int r)) f := by
  unfold fnX10_in at hf
  refine pz_enter (by decide +kernel) (Nat.le_of_ble_eq_true rfl) (fun C hl hC hK hnm => ?_)
  subst hl
  refine pz_sub (lv' := [(0, .int p0), (1, .int p1), (2, .int p2)]) [0, 1, 2] rfl ?_
  refine pz_iload_n hC dX10_in_0 0 rfl ?_
  refine pz_iload_n hC dX10_in_1 1 rfl ?_
  refine pz_icmp_lt hC dX10_in_2 hf (fun _ hf => ?_) (fun _ hf => ?_)
  · refine pz_sub [] rfl ?_
    exact tX10_in_14 hC hK hf
  · refine pz_iload_n hC dX10_in_5 0 rfl ?_
    refine pz_iload_n hC dX10_in_6 2 rfl ?_
    refine pz_icmp_gt hC dX10_in_7 hf (fun _ hf => ?_) (fun _ hf => ?_)
    · refine pz_sub [] rfl ?_
      exact tX10_in_14 hC hK hf
    · refine pz_iconst (v := (1 : Int32)) hC dX10_in_10 (by decide) ?_
      refine pz_goto hC dX10_in_11 ?_
      refine pz_sub [] rfl ?_
      exact tX10_in_15 hC hK hf
def fnX10_isMonth (p0 : Int32) : Option Int32 :=
  (fnX10_in p0 ((0 : Int32)) ((1799 : Int32))).bind fun x1 =>
  pz_b x1
theorem mX10_isMonth {l : Launch} {G : pz_G} {f : pz_H} {p0 : Int32} {r : Int32} (hf : fnX10_isMonth p0 = some r) : pz_Met l G yX10_isMonth cX10_isMonth 1 (some .boolean) 1 22 0 0 [.int p0] f (some (.int r)) f := by
  unfold fnX10_isMonth at hf
  refine pz_enter (by decide +kernel) (Nat.le_of_ble_eq_true rfl) (fun C hl hC hK hnm => ?_)
  subst hl
  refine pz_sub (lv' := [(0, .int p0)]) [0] rfl ?_
  refine pz_iload_n hC dX10_isMonth_0 0 rfl ?_
  refine pz_iconst (v := (0 : Int32)) hC dX10_isMonth_1 (by decide) ?_
  refine pz_sipush (v := (1799 : Int32)) hC dX10_isMonth_2 (by decide) ?_
  refine pz_Si (As := [.int p0, .int (0 : Int32), .int (1799 : Int32)]) hC hK dX10_isMonth_5 py_X10_in ps_X10_in lk_X10_52 hf (fun _ h => mX10_in h) rfl rfl (Nat.le_of_ble_eq_true rfl) ⟨by decide, by decide⟩ ⟨by decide, by decide⟩ (fun x1 hf => ?_)
  exact pz_zret hC hK dX10_isMonth_8 hf
def fnX10_isSpouse (f : pz_H) (a0 : Nat) (p1 : Int32) : Option Int32 :=
  (pz_is f a0 9).bind fun _ =>
  (pz_gR f a0 9 1).bind fun v1 =>
  (pz_aI f v1 0 ((4 : Int32))).bind fun v2 =>
  (fnX10_in p1 ((0 : Int32)) ((v2 - (1 : Int32)))).bind fun x3 =>
  pz_b x3
theorem mX10_isSpouse {l : Launch} {G : pz_G} {f : pz_H} {a0 : Nat} {p1 : Int32} {r : Int32} (hf : fnX10_isSpouse f a0 p1 = some r) : pz_Met l G yX10_isSpouse cX10_isSpouse 2 (some .boolean) 1 22 0 0 [.ref a0, .int p1] f (some (.int r)) f ∧ pz_is f a0 9 = some () := by
  unfold fnX10_isSpouse at hf
  obtain ⟨_, h0, hf⟩ := pz_bd hf
  refine ⟨pz_enter (by decide +kernel) (Nat.le_of_ble_eq_true rfl) (fun C hl hC hK hnm => ?_), h0⟩
  subst hl
  refine pz_sub (lv' := [(0, .ref a0), (1, .int p1)]) [0, 1] rfl ?_
  refine pz_iload_n hC dX10_isSpouse_0 1 rfl ?_
  refine pz_iconst (v := (0 : Int32)) hC dX10_isSpouse_1 (by decide) ?_
  refine pz_aload_n hC dX10_isSpouse_2 0 rfl ?_
  refine pz_getR hC dX10_isSpouse_3 fa_X10_7 hf (fun v1 hf => ?_)
  refine pz_iconst (v := (4 : Int32)) hC dX10_isSpouse_6 (by decide) ?_
  refine pz_iald hC dX10_isSpouse_7 hf (fun v2 hf => ?_)
  refine pz_iconst (v := (1 : Int32)) hC dX10_isSpouse_8 (by decide) ?_
  refine pz_isub hC dX10_isSpouse_9 ?_
  refine pz_Si (As := [.int p1, .int (0 : Int32), .int (v2 - (1 : Int32))]) hC hK dX10_isSpouse_10 py_X10_in ps_X10_in lk_X10_52 hf (fun _ h => mX10_in h) rfl rfl (Nat.le_of_ble_eq_true rfl) ⟨by decide, by decide⟩ ⟨by decide, by decide⟩ (fun x3 hf => ?_)
  exact pz_zret hC hK dX10_isSpouse_13 hf
def fnX10_its (f : pz_H) (a0 : Nat) (p1 : Int32) (p2 : Int32) : Option Int32 :=
  (pz_is f a0 9).bind fun _ =>
  (pz_gR f a0 9 1).bind fun v1 =>
  (pz_aI f v1 0 ((((35 : Int32) + ((8 : Int32) * p1)) + p2))).bind fun v2 =>
  some v2
theorem mX10_its {l : Launch} {G : pz_G} {f : pz_H} {a0 : Nat} {p1 : Int32} {p2 : Int32} {r : Int32} (hf : fnX10_its f a0 p1 p2 = some r) : pz_Met l G yX10_its cX10_its 3 (some .int) 0 0 0 0 [.ref a0, .int p1, .int p2] f (some (.int r)) f ∧ pz_is f a0 9 = some () := by
  unfold fnX10_its at hf
  obtain ⟨_, h0, hf⟩ := pz_bd hf
  refine ⟨pz_enter (by decide +kernel) (Nat.le_of_ble_eq_true rfl) (fun C hl hC hK hnm => ?_), h0⟩
  subst hl
  refine pz_sub (lv' := [(0, .ref a0), (1, .int p1), (2, .int p2)]) [0, 1, 2] rfl ?_
  refine pz_aload_n hC dX10_its_0 0 rfl ?_
  refine pz_getR hC dX10_its_1 fa_X10_7 hf (fun v1 hf => ?_)
  refine pz_bipush (v := (35 : Int32)) hC dX10_its_4 (by decide) ?_
  refine pz_bipush (v := (8 : Int32)) hC dX10_its_6 (by decide) ?_
  refine pz_iload_n hC dX10_its_8 1 rfl ?_
  refine pz_imul hC dX10_its_9 ?_
  refine pz_iadd hC dX10_its_10 ?_
  refine pz_iload_n hC dX10_its_11 2 rfl ?_
  refine pz_iadd hC dX10_its_12 ?_
  refine pz_iald hC dX10_its_13 hf (fun v2 hf => ?_)
  exact pz_iret hC hK dX10_its_14 hf
def fX10_isParted_15 (f : pz_H) (s0 : Int32) : Option Int32 :=
  pz_b s0
theorem tX10_isParted_15 {G : pz_G} {C : pz_C} {f : pz_H} {s0 : Int32} {r : Int32} (hC : pz_OK G C cX10_isParted 2 RX10) (hK : pz_K C (some .boolean) 1 22 0 0) (hf : fX10_isParted_15 f s0 = some r) : pz_W G C 2 15 [] [.int s0] f 0 0 (pz_Q G C (some (.int r)) f 0 0) := by
  unfold fX10_isParted_15 at hf
  exact pz_zret hC hK dX10_isParted_15 hf
def fnX10_isParted (f : pz_H) (a0 : Nat) (p1 : Int32) : Option Int32 :=
  (pz_is f a0 9).bind fun _ =>
  (fnX10_its f a0 p1 ((2 : Int32))).bind fun x1 =>
  if x1 = ((-1) : Int32) then fX10_isParted_15 f ((0 : Int32)) else
  fX10_isParted_15 f ((1 : Int32))
theorem mX10_isParted {l : Launch} {G : pz_G} {f : pz_H} {a0 : Nat} {p1 : Int32} {r : Int32} (hf : fnX10_isParted f a0 p1 = some r) : pz_Met l G yX10_isParted cX10_isParted 2 (some .boolean) 1 22 0 0 [.ref a0, .int p1] f (some (.int r)) f ∧ pz_is f a0 9 = some () := by
  unfold fnX10_isParted at hf
  obtain ⟨_, h0, hf⟩ := pz_bd hf
  refine ⟨pz_enter (by decide +kernel) (Nat.le_of_ble_eq_true rfl) (fun C hl hC hK hnm => ?_), h0⟩
  subst hl
  refine pz_sub (lv' := [(0, .ref a0), (1, .int p1)]) [0, 1] rfl ?_
  refine pz_aload_n hC dX10_isParted_0 0 rfl ?_
  refine pz_iload_n hC dX10_isParted_1 1 rfl ?_
  refine pz_iconst (v := (2 : Int32)) hC dX10_isParted_2 (by decide) ?_
  refine pz_Vi (As := [.int p1, .int (2 : Int32)]) hC hK dX10_isParted_3 py_X10_its pv_X10_its lk_X10_56 hf (fun _ h => mX10_its h) rfl rfl (Nat.le_of_ble_eq_true rfl) ⟨by decide, by decide⟩ ⟨by decide, by decide⟩ (fun x1 hf => ?_)
  refine pz_iconst (v := ((-1) : Int32)) hC dX10_isParted_6 (by decide) ?_
  refine pz_icmp_eq hC dX10_isParted_7 hf (fun _ hf => ?_) (fun _ hf => ?_)
  · refine pz_iconst (v := (0 : Int32)) hC dX10_isParted_14 (by decide) ?_
    refine pz_sub [] rfl ?_
    exact tX10_isParted_15 hC hK hf
  · refine pz_iconst (v := (1 : Int32)) hC dX10_isParted_10 (by decide) ?_
    refine pz_goto hC dX10_isParted_11 ?_
    refine pz_sub [] rfl ?_
    exact tX10_isParted_15 hC hK hf
def fnX10_spanOf (f : pz_H) (a0 : Nat) (p1 : Int32) (p2 : Int32) : Option Int32 :=
  (pz_is f a0 9).bind fun _ =>
  (pz_gR f a0 9 1).bind fun v1 =>
  (pz_aI f v1 0 ((((11 : Int32) + ((3 : Int32) * p1)) + p2))).bind fun v2 =>
  some v2
theorem mX10_spanOf {l : Launch} {G : pz_G} {f : pz_H} {a0 : Nat} {p1 : Int32} {p2 : Int32} {r : Int32} (hf : fnX10_spanOf f a0 p1 p2 = some r) : pz_Met l G yX10_spanOf cX10_spanOf 3 (some .int) 0 0 0 0 [.ref a0, .int p1, .int p2] f (some (.int r)) f ∧ pz_is f a0 9 = some () := by
  unfold fnX10_spanOf at hf
  obtain ⟨_, h0, hf⟩ := pz_bd hf
  refine ⟨pz_enter (by decide +kernel) (Nat.le_of_ble_eq_true rfl) (fun C hl hC hK hnm => ?_), h0⟩
  subst hl
  refine pz_sub (lv' := [(0, .ref a0), (1, .int p1), (2, .int p2)]) [0, 1, 2] rfl ?_
  refine pz_aload_n hC dX10_spanOf_0 0 rfl ?_
  refine pz_getR hC dX10_spanOf_1 fa_X10_7 hf (fun v1 hf => ?_)
  refine pz_bipush (v := (11 : Int32)) hC dX10_spanOf_4 (by decide) ?_
  refine pz_iconst (v := (3 : Int32)) hC dX10_spanOf_6 (by decide) ?_
  refine pz_iload_n hC dX10_spanOf_7 1 rfl ?_
  refine pz_imul hC dX10_spanOf_8 ?_
  refine pz_iadd hC dX10_spanOf_9 ?_
  refine pz_iload_n hC dX10_spanOf_10 2 rfl ?_
  refine pz_iadd hC dX10_spanOf_11 ?_
  refine pz_iald hC dX10_spanOf_12 hf (fun v2 hf => ?_)
  exact pz_iret hC hK dX10_spanOf_13 hf
def fX10_serviceIn_81 (k5 : Nat → Int32 → Int32 → Int32 → Int32 → Option Int32) (f : pz_H) (l0 : Nat) (l1 : Int32) (l2 : Int32) (l4 : Int32) (s0 : Int32) (s1 : Int32) : Option Int32 :=
  k5 l0 l1 l2 ((s1 + s0)) ((l4 + 1))
theorem tX10_serviceIn_81 {G : pz_G} {C : pz_C} {f : pz_H} {k5 : Nat → Int32 → Int32 → Int32 → Int32 → Option Int32} {l0 : Nat} {l1 : Int32} {l2 : Int32} {l4 : Int32} {s0 : Int32} {s1 : Int32} {r : Int32} (hC : pz_OK G C cX10_serviceIn 7 RX10) (hK : pz_K C (some .int) 1 22 0 0) (hk5 : ∀ (a0 : Nat) (a1 : Int32) (a2 : Int32) (a3 : Int32) (a4 : Int32), k5 a0 a1 a2 a3 a4 = some r → pz_W G C 7 5 [(0, .ref a0), (1, .int a1), (2, .int a2), (3, .int a3), (4, .int a4)] [] f 0 0 (pz_Q G C (some (.int r)) f 0 0)) (hf : fX10_serviceIn_81 k5 f l0 l1 l2 l4 s0 s1 = some r) : pz_W G C 7 81 [(0, .ref l0), (1, .int l1), (2, .int l2), (4, .int l4)] [.int s0, .int s1] f 0 0 (pz_Q G C (some (.int r)) f 0 0) := by
  unfold fX10_serviceIn_81 at hf
  refine pz_iadd hC dX10_serviceIn_81 ?_
  refine pz_istore_n hC dX10_serviceIn_82 (by decide) rfl ?_
  refine pz_iinc (v := (l4 + 1)) hC dX10_serviceIn_83 4 rfl rfl (by decide) rfl ?_
  refine pz_goto hC dX10_serviceIn_86 ?_
  refine pz_sub [2, 3, 4, 1, 0] rfl ?_
  exact hk5 _ _ _ _ _ hf
def fX10_serviceIn_62 (k5 : Nat → Int32 → Int32 → Int32 → Int32 → Option Int32) (f : pz_H) (l0 : Nat) (l1 : Int32) (l2 : Int32) (l3 : Int32) (l4 : Int32) (l5 : Int32) (s0 : Int32) : Option Int32 :=
  if s0 ≤ l5 then fX10_serviceIn_81 k5 f l0 l1 l2 l4 ((0 : Int32)) l3 else
  fX10_serviceIn_81 k5 f l0 l1 l2 l4 ((s0 - l5)) l3
theorem tX10_serviceIn_62 {G : pz_G} {C : pz_C} {f : pz_H} {k5 : Nat → Int32 → Int32 → Int32 → Int32 → Option Int32} {l0 : Nat} {l1 : Int32} {l2 : Int32} {l3 : Int32} {l4 : Int32} {l5 : Int32} {s0 : Int32} {r : Int32} (hC : pz_OK G C cX10_serviceIn 7 RX10) (hK : pz_K C (some .int) 1 22 0 0) (hk5 : ∀ (a0 : Nat) (a1 : Int32) (a2 : Int32) (a3 : Int32) (a4 : Int32), k5 a0 a1 a2 a3 a4 = some r → pz_W G C 7 5 [(0, .ref a0), (1, .int a1), (2, .int a2), (3, .int a3), (4, .int a4)] [] f 0 0 (pz_Q G C (some (.int r)) f 0 0)) (hf : fX10_serviceIn_62 k5 f l0 l1 l2 l3 l4 l5 s0 = some r) : pz_W G C 7 62 [(0, .ref l0), (1, .int l1), (2, .int l2), (3, .int l3), (4, .int l4), (5, .int l5)] [.int s0] f 0 0 (pz_Q G C (some (.int r)) f 0 0) := by
  unfold fX10_serviceIn_62 at hf
  refine pz_istore hC dX10_serviceIn_62 (by decide) rfl ?_
  refine pz_iload_n hC dX10_serviceIn_64 4 rfl ?_
  refine pz_iload hC dX10_serviceIn_65 0 rfl ?_
  refine pz_iload hC dX10_serviceIn_67 6 rfl ?_
  refine pz_icmp_le hC dX10_serviceIn_69 hf (fun _ hf => ?_) (fun _ hf => ?_)
  · refine pz_iconst (v := (0 : Int32)) hC dX10_serviceIn_80 (by decide) ?_
    refine pz_sub [1, 2, 3, 5] rfl ?_
    exact tX10_serviceIn_81 hC hK hk5 hf
  · refine pz_iload hC dX10_serviceIn_72 0 rfl ?_
    refine pz_iload hC dX10_serviceIn_74 6 rfl ?_
    refine pz_isub hC dX10_serviceIn_76 ?_
    refine pz_goto hC dX10_serviceIn_77 ?_
    refine pz_sub [1, 2, 3, 5] rfl ?_
    exact tX10_serviceIn_81 hC hK hk5 hf
def fX10_serviceIn_38 (k5 : Nat → Int32 → Int32 → Int32 → Int32 → Option Int32) (f : pz_H) (l0 : Nat) (l1 : Int32) (l2 : Int32) (l3 : Int32) (l4 : Int32) (s0 : Int32) : Option Int32 :=
  (fnX10_spanOf f l0 l4 ((1 : Int32))).bind fun x1 =>
  if l2 ≤ x1 then fX10_serviceIn_62 k5 f l0 l1 l2 l3 l4 s0 l2 else
  (fnX10_spanOf f l0 l4 ((1 : Int32))).bind fun x2 =>
  fX10_serviceIn_62 k5 f l0 l1 l2 l3 l4 s0 x2
theorem tX10_serviceIn_38 {G : pz_G} {C : pz_C} {f : pz_H} {k5 : Nat → Int32 → Int32 → Int32 → Int32 → Option Int32} {l0 : Nat} {l1 : Int32} {l2 : Int32} {l3 : Int32} {l4 : Int32} {s0 : Int32} {r : Int32} (hC : pz_OK G C cX10_serviceIn 7 RX10) (hK : pz_K C (some .int) 1 22 0 0) (hk5 : ∀ (a0 : Nat) (a1 : Int32) (a2 : Int32) (a3 : Int32) (a4 : Int32), k5 a0 a1 a2 a3 a4 = some r → pz_W G C 7 5 [(0, .ref a0), (1, .int a1), (2, .int a2), (3, .int a3), (4, .int a4)] [] f 0 0 (pz_Q G C (some (.int r)) f 0 0)) (hf : fX10_serviceIn_38 k5 f l0 l1 l2 l3 l4 s0 = some r) : pz_W G C 7 38 [(0, .ref l0), (1, .int l1), (2, .int l2), (3, .int l3), (4, .int l4)] [.int s0] f 0 0 (pz_Q G C (some (.int r)) f 0 0) := by
  unfold fX10_serviceIn_38 at hf
  refine pz_istore hC dX10_serviceIn_38 (by decide) rfl ?_
  refine pz_aload_n hC dX10_serviceIn_40 1 rfl ?_
  refine pz_iload hC dX10_serviceIn_41 5 rfl ?_
  refine pz_iconst (v := (1 : Int32)) hC dX10_serviceIn_43 (by decide) ?_
  refine pz_Vi (As := [.int l4, .int (1 : Int32)]) hC hK dX10_serviceIn_44 py_X10_spanOf pv_X10_spanOf lk_X10_60 hf (fun _ h => mX10_spanOf h) rfl rfl (Nat.le_of_ble_eq_true rfl) ⟨by decide, by decide⟩ ⟨by decide, by decide⟩ (fun x1 hf => ?_)
  refine pz_iload_n hC dX10_serviceIn_47 3 rfl ?_
  refine pz_icmp_ge hC dX10_serviceIn_48 hf (fun _ hf => ?_) (fun _ hf => ?_)
  · refine pz_iload_n hC dX10_serviceIn_61 3 rfl ?_
    refine pz_sub [1, 2, 3, 4, 5, 0] rfl ?_
    exact tX10_serviceIn_62 hC hK hk5 hf
  · refine pz_aload_n hC dX10_serviceIn_51 1 rfl ?_
    refine pz_iload hC dX10_serviceIn_52 5 rfl ?_
    refine pz_iconst (v := (1 : Int32)) hC dX10_serviceIn_54 (by decide) ?_
    refine pz_Vi (As := [.int l4, .int (1 : Int32)]) hC hK dX10_serviceIn_55 py_X10_spanOf pv_X10_spanOf lk_X10_60 hf (fun _ h => mX10_spanOf h) rfl rfl (Nat.le_of_ble_eq_true rfl) ⟨by decide, by decide⟩ ⟨by decide, by decide⟩ (fun x2 hf => ?_)
    refine pz_goto hC dX10_serviceIn_58 ?_
    refine pz_sub [1, 2, 3, 4, 5, 0] rfl ?_
    exact tX10_serviceIn_62 hC hK hk5 hf
def fX10_serviceIn_5b (k5 : Nat → Int32 → Int32 → Int32 → Int32 → Option Int32) (f : pz_H) (l0 : Nat) (l1 : Int32) (l2 : Int32) (l3 : Int32) (l4 : Int32) : Option Int32 :=
  (pz_gR f l0 9 1).bind fun v1 =>
  (pz_aI f v1 0 ((3 : Int32))).bind fun v2 =>
  if v2 ≤ l4 then some l3 else
  (fnX10_spanOf f l0 l4 ((0 : Int32))).bind fun x3 =>
  if x3 ≤ l1 then fX10_serviceIn_38 k5 f l0 l1 l2 l3 l4 l1 else
  (fnX10_spanOf f l0 l4 ((0 : Int32))).bind fun x4 =>
  fX10_serviceIn_38 k5 f l0 l1 l2 l3 l4 x4
theorem tX10_serviceIn_5b {G : pz_G} {C : pz_C} {f : pz_H} {k5 : Nat → Int32 → Int32 → Int32 → Int32 → Option Int32} {l0 : Nat} {l1 : Int32} {l2 : Int32} {l3 : Int32} {l4 : Int32} {r : Int32} (hC : pz_OK G C cX10_serviceIn 7 RX10) (hK : pz_K C (some .int) 1 22 0 0) (hk5 : ∀ (a0 : Nat) (a1 : Int32) (a2 : Int32) (a3 : Int32) (a4 : Int32), k5 a0 a1 a2 a3 a4 = some r → pz_W G C 7 5 [(0, .ref a0), (1, .int a1), (2, .int a2), (3, .int a3), (4, .int a4)] [] f 0 0 (pz_Q G C (some (.int r)) f 0 0)) (hf : fX10_serviceIn_5b k5 f l0 l1 l2 l3 l4 = some r) : pz_W G C 7 5 [(0, .ref l0), (1, .int l1), (2, .int l2), (3, .int l3), (4, .int l4)] [] f 0 0 (pz_Q G C (some (.int r)) f 0 0) := by
  unfold fX10_serviceIn_5b at hf
  refine pz_iload hC dX10_serviceIn_5 4 rfl ?_
  refine pz_aload_n hC dX10_serviceIn_7 0 rfl ?_
  refine pz_getR hC dX10_serviceIn_8 fa_X10_7 hf (fun v1 hf => ?_)
  refine pz_iconst (v := (3 : Int32)) hC dX10_serviceIn_11 (by decide) ?_
  refine pz_iald hC dX10_serviceIn_12 hf (fun v2 hf => ?_)
  refine pz_icmp_ge hC dX10_serviceIn_13 hf (fun _ hf => ?_) (fun _ hf => ?_)
  · refine pz_iload_n hC dX10_serviceIn_89 3 rfl ?_
    exact pz_iret hC hK dX10_serviceIn_90 hf
  · refine pz_aload_n hC dX10_serviceIn_16 0 rfl ?_
    refine pz_iload hC dX10_serviceIn_17 4 rfl ?_
    refine pz_iconst (v := (0 : Int32)) hC dX10_serviceIn_19 (by decide) ?_
    refine pz_Vi (As := [.int l4, .int (0 : Int32)]) hC hK dX10_serviceIn_20 py_X10_spanOf pv_X10_spanOf lk_X10_60 hf (fun _ h => mX10_spanOf h) rfl rfl (Nat.le_of_ble_eq_true rfl) ⟨by decide, by decide⟩ ⟨by decide, by decide⟩ (fun x3 hf => ?_)
    refine pz_iload_n hC dX10_serviceIn_23 1 rfl ?_
    refine pz_icmp_le hC dX10_serviceIn_24 hf (fun _ hf => ?_) (fun _ hf => ?_)
    · refine pz_iload_n hC dX10_serviceIn_37 1 rfl ?_
      exact tX10_serviceIn_38 hC hK hk5 hf
    · refine pz_aload_n hC dX10_serviceIn_27 0 rfl ?_
      refine pz_iload hC dX10_serviceIn_28 4 rfl ?_
      refine pz_iconst (v := (0 : Int32)) hC dX10_serviceIn_30 (by decide) ?_
      refine pz_Vi (As := [.int l4, .int (0 : Int32)]) hC hK dX10_serviceIn_31 py_X10_spanOf pv_X10_spanOf lk_X10_60 hf (fun _ h => mX10_spanOf h) rfl rfl (Nat.le_of_ble_eq_true rfl) ⟨by decide, by decide⟩ ⟨by decide, by decide⟩ (fun x4 hf => ?_)
      refine pz_goto hC dX10_serviceIn_34 ?_
      exact tX10_serviceIn_38 hC hK hk5 hf
def fX10_serviceIn_5 (f : pz_H) : Nat → Nat → Int32 → Int32 → Int32 → Int32 → Option Int32
  | 0, _, _, _, _, _ => none
  | n + 1, l0, l1, l2, l3, l4 => fX10_serviceIn_5b (fX10_serviceIn_5 f n) f l0 l1 l2 l3 l4
theorem tX10_serviceIn_5 {G : pz_G} {C : pz_C} {f : pz_H} {r : Int32} (hC : pz_OK G C cX10_serviceIn 7 RX10) (hK : pz_K C (some .int) 1 22 0 0) : ∀ (N : Nat) (l0 : Nat) (l1 : Int32) (l2 : Int32) (l3 : Int32) (l4 : Int32), fX10_serviceIn_5 f N l0 l1 l2 l3 l4 = some r → pz_W G C 7 5 [(0, .ref l0), (1, .int l1), (2, .int l2), (3, .int l3), (4, .int l4)] [] f 0 0 (pz_Q G C (some (.int r)) f 0 0) := by
  intro N
  induction N with
  | zero => intro l0 l1 l2 l3 l4 hf; cases hf
  | succ N ih => intro l0 l1 l2 l3 l4 hf; exact tX10_serviceIn_5b hC hK (fun l0 l1 l2 l3 l4 hf => ih l0 l1 l2 l3 l4 hf) hf
def fnX10_serviceIn (f : pz_H) (a0 : Nat) (p1 : Int32) (p2 : Int32) : Option Int32 :=
  (pz_is f a0 9).bind fun _ =>
  fX10_serviceIn_5 f pz_F a0 p1 p2 ((0 : Int32)) ((0 : Int32))
theorem mX10_serviceIn {l : Launch} {G : pz_G} {f : pz_H} {a0 : Nat} {p1 : Int32} {p2 : Int32} {r : Int32} (hf : fnX10_serviceIn f a0 p1 p2 = some r) : pz_Met l G yX10_serviceIn cX10_serviceIn 7 (some .int) 1 22 0 0 [.ref a0, .int p1, .int p2] f (some (.int r)) f ∧ pz_is f a0 9 = some () := by
  unfold fnX10_serviceIn at hf
  obtain ⟨_, h0, hf⟩ := pz_bd hf
  refine ⟨pz_enter (by decide +kernel) (Nat.le_of_ble_eq_true rfl) (fun C hl hC hK hnm => ?_), h0⟩
  subst hl
  refine pz_sub (lv' := [(0, .ref a0), (1, .int p1), (2, .int p2)]) [0, 1, 2] rfl ?_
  refine pz_iconst (v := (0 : Int32)) hC dX10_serviceIn_0 (by decide) ?_
  refine pz_istore_n hC dX10_serviceIn_1 (by decide) rfl ?_
  refine pz_iconst (v := (0 : Int32)) hC dX10_serviceIn_2 (by decide) ?_
  refine pz_istore hC dX10_serviceIn_3 (by decide) rfl ?_
  refine pz_sub [2, 3, 4, 1, 0] rfl ?_
  exact tX10_serviceIn_5 hC hK _ _ _ _ _ _ hf
