def fX10_begins_2b (k2 : pz_H → Nat → Int32 → Int32 → Option pz_H) (f : pz_H) (l0 : Nat) (l1 : Int32) (l2 : Int32) : Option pz_H :=
  if (87 : Int32) ≤ l2 then (pz_gR f l0 9 1).bind fun v1 =>
  (pz_tI f v1 0 ((0 : Int32)) l1).bind fun f2 =>
  (pz_gR f2 l0 9 1).bind fun v3 =>
  (pz_tI f2 v3 0 ((1 : Int32)) (((-1) : Int32))).bind fun f4 =>
  (pz_gR f4 l0 9 1).bind fun v5 =>
  (pz_tI f4 v5 0 ((2 : Int32)) (((-1) : Int32))).bind fun f6 =>
  (pz_gR f6 l0 9 1).bind fun v7 =>
  (pz_tI f6 v7 0 ((6 : Int32)) ((200 : Int32))).bind fun f8 =>
  (pz_gR f8 l0 9 1).bind fun v9 =>
  (pz_tI f8 v9 0 ((7 : Int32)) ((780 : Int32))).bind fun f10 =>
  (pz_gR f10 l0 9 1).bind fun v11 =>
  (pz_tI f10 v11 0 ((8 : Int32)) ((3 : Int32))).bind fun f12 =>
  (pz_gR f12 l0 9 1).bind fun v13 =>
  (pz_tI f12 v13 0 ((9 : Int32)) ((20 : Int32))).bind fun f14 =>
  (pz_gR f14 l0 9 1).bind fun v15 =>
  (pz_tI f14 v15 0 ((10 : Int32)) ((30 : Int32))).bind fun f16 =>
  some f16 else
  (pz_gR f l0 9 1).bind fun v17 =>
  (pz_tI f v17 0 l2 ((0 : Int32))).bind fun f18 =>
  k2 f18 l0 l1 ((l2 + 1))
theorem tX10_begins_2b {G : pz_G} {C : pz_C} {f : pz_H} {k2 : pz_H → Nat → Int32 → Int32 → Option pz_H} {l0 : Nat} {l1 : Int32} {l2 : Int32} {r : pz_H} (hC : pz_OK G C cX10_begins 3 RX10) (hK : pz_K C none 0 0 0 0) (hk2 : ∀ (g : pz_H) (a0 : Nat) (a1 : Int32) (a2 : Int32), k2 g a0 a1 a2 = some r → pz_W G C 3 2 [(0, .ref a0), (1, .int a1), (2, .int a2)] [] g 0 0 (pz_Q G C none r 0 0)) (hf : fX10_begins_2b k2 f l0 l1 l2 = some r) : pz_W G C 3 2 [(0, .ref l0), (1, .int l1), (2, .int l2)] [] f 0 0 (pz_Q G C none r 0 0) := by
  unfold fX10_begins_2b at hf
  refine pz_iload_n hC dX10_begins_2 2 rfl ?_
  refine pz_bipush (v := (87 : Int32)) hC dX10_begins_3 (by decide) ?_
  refine pz_icmp_ge hC dX10_begins_5 hf (fun _ hf => ?_) (fun _ hf => ?_)
  · refine pz_aload_n hC dX10_begins_21 0 rfl ?_
    refine pz_getR hC dX10_begins_22 fa_X10_7 hf (fun v1 hf => ?_)
    refine pz_iconst (v := (0 : Int32)) hC dX10_begins_25 (by decide) ?_
    refine pz_iload_n hC dX10_begins_26 1 rfl ?_
    refine pz_iast hC dX10_begins_27 hf (fun f2 hf => ?_)
    refine pz_aload_n hC dX10_begins_28 0 rfl ?_
    refine pz_getR hC dX10_begins_29 fa_X10_7 hf (fun v3 hf => ?_)
    refine pz_iconst (v := (1 : Int32)) hC dX10_begins_32 (by decide) ?_
    refine pz_iconst (v := ((-1) : Int32)) hC dX10_begins_33 (by decide) ?_
    refine pz_iast hC dX10_begins_34 hf (fun f4 hf => ?_)
    refine pz_aload_n hC dX10_begins_35 0 rfl ?_
    refine pz_getR hC dX10_begins_36 fa_X10_7 hf (fun v5 hf => ?_)
    refine pz_iconst (v := (2 : Int32)) hC dX10_begins_39 (by decide) ?_
    refine pz_iconst (v := ((-1) : Int32)) hC dX10_begins_40 (by decide) ?_
    refine pz_iast hC dX10_begins_41 hf (fun f6 hf => ?_)
    refine pz_aload_n hC dX10_begins_42 0 rfl ?_
    refine pz_getR hC dX10_begins_43 fa_X10_7 hf (fun v7 hf => ?_)
    refine pz_bipush (v := (6 : Int32)) hC dX10_begins_46 (by decide) ?_
    refine pz_sipush (v := (200 : Int32)) hC dX10_begins_48 (by decide) ?_
    refine pz_iast hC dX10_begins_51 hf (fun f8 hf => ?_)
    refine pz_aload_n hC dX10_begins_52 0 rfl ?_
    refine pz_getR hC dX10_begins_53 fa_X10_7 hf (fun v9 hf => ?_)
    refine pz_bipush (v := (7 : Int32)) hC dX10_begins_56 (by decide) ?_
    refine pz_sipush (v := (780 : Int32)) hC dX10_begins_58 (by decide) ?_
    refine pz_iast hC dX10_begins_61 hf (fun f10 hf => ?_)
    refine pz_aload_n hC dX10_begins_62 0 rfl ?_
    refine pz_getR hC dX10_begins_63 fa_X10_7 hf (fun v11 hf => ?_)
    refine pz_bipush (v := (8 : Int32)) hC dX10_begins_66 (by decide) ?_
    refine pz_iconst (v := (3 : Int32)) hC dX10_begins_68 (by decide) ?_
    refine pz_iast hC dX10_begins_69 hf (fun f12 hf => ?_)
    refine pz_aload_n hC dX10_begins_70 0 rfl ?_
    refine pz_getR hC dX10_begins_71 fa_X10_7 hf (fun v13 hf => ?_)
    refine pz_bipush (v := (9 : Int32)) hC dX10_begins_74 (by decide) ?_
    refine pz_bipush (v := (20 : Int32)) hC dX10_begins_76 (by decide) ?_
    refine pz_iast hC dX10_begins_78 hf (fun f14 hf => ?_)
    refine pz_aload_n hC dX10_begins_79 0 rfl ?_
    refine pz_getR hC dX10_begins_80 fa_X10_7 hf (fun v15 hf => ?_)
    refine pz_bipush (v := (10 : Int32)) hC dX10_begins_83 (by decide) ?_
    refine pz_bipush (v := (30 : Int32)) hC dX10_begins_85 (by decide) ?_
    refine pz_iast hC dX10_begins_87 hf (fun f16 hf => ?_)
    exact pz_vret hC hK dX10_begins_88 hf
  · refine pz_aload_n hC dX10_begins_8 0 rfl ?_
    refine pz_getR hC dX10_begins_9 fa_X10_7 hf (fun v17 hf => ?_)
    refine pz_iload_n hC dX10_begins_12 2 rfl ?_
    refine pz_iconst (v := (0 : Int32)) hC dX10_begins_13 (by decide) ?_
    refine pz_iast hC dX10_begins_14 hf (fun f18 hf => ?_)
    refine pz_iinc (v := (l2 + 1)) hC dX10_begins_15 2 rfl rfl (by decide) rfl ?_
    refine pz_goto hC dX10_begins_18 ?_
    refine pz_sub [1, 2, 0] rfl ?_
    exact hk2 _ _ _ _ hf
def fX10_begins_2 : Nat → pz_H → Nat → Int32 → Int32 → Option pz_H
  | 0, _, _, _, _ => none
  | n + 1, f, l0, l1, l2 => fX10_begins_2b (fX10_begins_2 n) f l0 l1 l2
theorem tX10_begins_2 {G : pz_G} {C : pz_C} {r : pz_H} (hC : pz_OK G C cX10_begins 3 RX10) (hK : pz_K C none 0 0 0 0) : ∀ (N : Nat) (f : pz_H) (l0 : Nat) (l1 : Int32) (l2 : Int32), fX10_begins_2 N f l0 l1 l2 = some r → pz_W G C 3 2 [(0, .ref l0), (1, .int l1), (2, .int l2)] [] f 0 0 (pz_Q G C none r 0 0) := by
  intro N
  induction N with
  | zero => intro f l0 l1 l2 hf; cases hf
  | succ N ih => intro f l0 l1 l2 hf; exact tX10_begins_2b hC hK (fun f l0 l1 l2 hf => ih f l0 l1 l2 hf) hf
def fnX10_begins (f : pz_H) (a0 : Nat) (p1 : Int32) : Option pz_H :=
  (pz_is f a0 9).bind fun _ =>
  fX10_begins_2 pz_F f a0 p1 ((0 : Int32))
theorem mX10_begins {l : Launch} {G : pz_G} {f : pz_H} {a0 : Nat} {p1 : Int32} {r : pz_H} (hf : fnX10_begins f a0 p1 = some r) : pz_Met l G yX10_begins cX10_begins 3 none 0 0 0 0 [.ref a0, .int p1] f none r ∧ pz_is f a0 9 = some () := by
  unfold fnX10_begins at hf
  obtain ⟨_, h0, hf⟩ := pz_bd hf
  refine ⟨pz_enter (by decide +kernel) (Nat.le_of_ble_eq_true rfl) (fun C hl hC hK hnm => ?_), h0⟩
  subst hl
  refine pz_sub (lv' := [(0, .ref a0), (1, .int p1)]) [0, 1] rfl ?_
  refine pz_iconst (v := (0 : Int32)) hC dX10_begins_0 (by decide) ?_
  refine pz_istore_n hC dX10_begins_1 (by decide) rfl ?_
  refine pz_sub [1, 2, 0] rfl ?_
  exact tX10_begins_2 hC hK _ _ _ _ _ hf
def fnX10_thrown (f : pz_H) (a0 : Nat) : Option Int32 :=
  (pz_is f a0 9).bind fun _ =>
  (pz_gI f a0 9 0).bind fun v1 =>
  some v1
theorem mX10_thrown {l : Launch} {G : pz_G} {f : pz_H} {a0 : Nat} {r : Int32} (hf : fnX10_thrown f a0 = some r) : pz_Met l G yX10_thrown cX10_thrown 1 (some .int) 0 0 0 0 [.ref a0] f (some (.int r)) f ∧ pz_is f a0 9 = some () := by
  unfold fnX10_thrown at hf
  obtain ⟨_, h0, hf⟩ := pz_bd hf
  refine ⟨pz_enter (by decide +kernel) (Nat.le_of_ble_eq_true rfl) (fun C hl hC hK hnm => ?_), h0⟩
  subst hl
  refine pz_sub (lv' := [(0, .ref a0)]) [0] rfl ?_
  refine pz_aload_n hC dX10_thrown_0 0 rfl ?_
  refine pz_getI hC dX10_thrown_1 fa_X10_48 hf (fun v1 hf => ?_)
  exact pz_iret hC hK dX10_thrown_4 hf
def fX10_in_15 (s0 : Int32) : Option Int32 :=
  pz_b s0
theorem tX10_in_15 {G : pz_G} {C : pz_C} {f : pz_H} {s0 : Int32} {r : Int32} (hC : pz_OK G C cX10_in 3 RX10) (hK : pz_K C (some .boolean) 0 0 0 0) (hf : fX10_in_15 s0 = some r) : pz_W G C 3 15 [] [.int s0] f 0 0 (pz_Q G C (some (.int r)) f 0 0) := by
  unfold fX10_in_15 at hf
  exact pz_zret hC hK dX10_in_15 hf
def fX10_in_14 : Option Int32 :=
  fX10_in_15 ((0 : Int32))
theorem tX10_in_14 {G : pz_G} {C : pz_C} {f : pz_H} {r : Int32} (hC : pz_OK G C cX10_in 3 RX10) (hK : pz_K C (some .boolean) 0 0 0 0) (hf : fX10_in_14 = some r) : pz_W G C 3 14 [] [] f 0 0 (pz_Q G C (some (.int r)) f 0 0) := by
  unfold fX10_in_14 at hf
  refine pz_iconst (v := (0 : Int32)) hC dX10_in_14 (by decide) ?_
  exact tX10_in_15 hC hK hf
def fnX10_in (p0 : Int32) (p1 : Int32) (p2 : Int32) : Option Int32 :=
  if p0 < p1 then fX10_in_14 else
  if p2 < p0 then fX10_in_14 else
  fX10_in_15 ((1 : Int32))
theorem mX10_in {l : Launch} {G : pz_G} {f : pz_H} {p0 : Int32} {p1 : Int32} {p2 : Int32} {r : Int32} (hf : fnX10_in p0 p1 p2 = some r) : pz_Met l G yX10_in cX10_in 3 (some .boolean) 0 0 0 0 [.int p0, .int p1, .int p2] f (some (.int r)) f := by
  unfold fnX10_in at hf
  refine pz_enter (by decide +kernel) (Nat.le_of_ble_eq_true rfl) (fun C hl hC hK hnm => ?_)
  subst hl
  refine pz_sub (lv' := [(0, .int p0), (1, .int p1), (2, .int p2)]) [0, 1, 2] rfl ?_
  refine pz_iload_n hC dX10_in_0 0 rfl ?_
  refine pz_iload_n hC dX10_in_1 1 rfl ?_
  refine pz_icmp_lt hC dX10_in_2 hf (fun _ hf => ?_) (fun _ hf => ?_)
  · refine pz_sub [] rfl ?_
    exact tX10_in_14 hC hK hf
  · refine pz_iload_n hC dX10_in_5 0 rfl ?_
    refine pz_iload_n hC dX10_in_6 2 rfl ?_
    refine pz_icmp_gt hC dX10_in_7 hf (fun _ hf => ?_) (fun _ hf => ?_)
    · refine pz_sub [] rfl ?_
      exact tX10_in_14 hC hK hf
    · refine pz_iconst (v := (1 : Int32)) hC dX10_in_10 (by decide) ?_
      refine pz_goto hC dX10_in_11 ?_
      refine pz_sub [] rfl ?_
      exact tX10_in_15 hC hK hf
def fnX10_isMonth (p0 : Int32) : Option Int32 :=
  (fnX10_in p0 ((0 : Int32)) ((1799 : Int32))).bind fun x1 =>
  pz_b x1
theorem mX10_isMonth {l : Launch} {G : pz_G} {f : pz_H} {p0 : Int32} {r : Int32} (hf : fnX10_isMonth p0 = some r) : pz_Met l G yX10_isMonth cX10_isMonth 1 (some .boolean) 1 22 0 0 [.int p0] f (some (.int r)) f := by
  unfold fnX10_isMonth at hf
  refine pz_enter (by decide +kernel) (Nat.le_of_ble_eq_true rfl) (fun C hl hC hK hnm => ?_)
  subst hl
  refine pz_sub (lv' := [(0, .int p0)]) [0] rfl ?_
  refine pz_iload_n hC dX10_isMonth_0 0 rfl ?_
  refine pz_iconst (v := (0 : Int32)) hC dX10_isMonth_1 (by decide) ?_
  refine pz_sipush (v := (1799 : Int32)) hC dX10_isMonth_2 (by decide) ?_
  refine pz_Si (As := [.int p0, .int (0 : Int32), .int (1799 : Int32)]) hC hK dX10_isMonth_5 py_X10_in ps_X10_in lk_X10_52 hf (fun _ h => mX10_in h) rfl rfl (Nat.le_of_ble_eq_true rfl) ⟨by decide, by decide⟩ ⟨by decide, by decide⟩ (fun x1 hf => ?_)
  exact pz_zret hC hK dX10_isMonth_8 hf
def fnX10_mostOf (p0 : Int32) : Option Int32 :=
  if p0 = (0 : Int32) then some ((400 : Int32)) else
  if p0 = (1 : Int32) then some ((1200 : Int32)) else
  if p0 = (2 : Int32) then some ((10 : Int32)) else
  if p0 = (3 : Int32) then some ((30 : Int32)) else
  some ((200 : Int32))
theorem mX10_mostOf {l : Launch} {G : pz_G} {f : pz_H} {p0 : Int32} {r : Int32} (hf : fnX10_mostOf p0 = some r) : pz_Met l G yX10_mostOf cX10_mostOf 1 (some .int) 0 0 0 0 [.int p0] f (some (.int r)) f := by
  unfold fnX10_mostOf at hf
  refine pz_enter (by decide +kernel) (Nat.le_of_ble_eq_true rfl) (fun C hl hC hK hnm => ?_)
  subst hl
  refine pz_sub (lv' := [(0, .int p0)]) [0] rfl ?_
  refine pz_iload_n hC dX10_mostOf_0 0 rfl ?_
  refine pz_case (x := p0) (v := (0 : Int32)) hf (fun c1_0 hf => ?_) (fun c1_0 hf => ?_)
  · refine pz_tabI (tgt := 32) hC dX10_mostOf_1 c1_0 (by decide) (by decide) rfl rfl ?_
    refine pz_sipush (v := (400 : Int32)) hC dX10_mostOf_32 (by decide) ?_
    exact pz_iret hC hK dX10_mostOf_35 hf
  refine pz_case (x := p0) (v := (1 : Int32)) hf (fun c1_1 hf => ?_) (fun c1_1 hf => ?_)
  · refine pz_tabI (tgt := 36) hC dX10_mostOf_1 c1_1 (by decide) (by decide) rfl rfl ?_
    refine pz_sipush (v := (1200 : Int32)) hC dX10_mostOf_36 (by decide) ?_
    exact pz_iret hC hK dX10_mostOf_39 hf
  refine pz_case (x := p0) (v := (2 : Int32)) hf (fun c1_2 hf => ?_) (fun c1_2 hf => ?_)
  · refine pz_tabI (tgt := 40) hC dX10_mostOf_1 c1_2 (by decide) (by decide) rfl rfl ?_
    refine pz_bipush (v := (10 : Int32)) hC dX10_mostOf_40 (by decide) ?_
    exact pz_iret hC hK dX10_mostOf_42 hf
  refine pz_case (x := p0) (v := (3 : Int32)) hf (fun c1_3 hf => ?_) (fun c1_3 hf => ?_)
  · refine pz_tabI (tgt := 43) hC dX10_mostOf_1 c1_3 (by decide) (by decide) rfl rfl ?_
    refine pz_bipush (v := (30 : Int32)) hC dX10_mostOf_43 (by decide) ?_
    exact pz_iret hC hK dX10_mostOf_45 hf
  have ec1_0 : ¬ p0.toInt = 0 := lv_neT c1_0 rfl
  have ec1_1 : ¬ p0.toInt = 1 := lv_neT c1_1 rfl
  have ec1_2 : ¬ p0.toInt = 2 := lv_neT c1_2 rfl
  have ec1_3 : ¬ p0.toInt = 3 := lv_neT c1_3 rfl
  refine pz_tabO (tgt := 46) hC dX10_mostOf_1 (by omega) rfl ?_
  refine pz_sipush (v := (200 : Int32)) hC dX10_mostOf_46 (by decide) ?_
  exact pz_iret hC hK dX10_mostOf_49 hf
def fnX10_isSpouse (f : pz_H) (a0 : Nat) (p1 : Int32) : Option Int32 :=
  (pz_is f a0 9).bind fun _ =>
  (pz_gR f a0 9 1).bind fun v1 =>
  (pz_aI f v1 0 ((4 : Int32))).bind fun v2 =>
  (fnX10_in p1 ((0 : Int32)) ((v2 - (1 : Int32)))).bind fun x3 =>
  pz_b x3
theorem mX10_isSpouse {l : Launch} {G : pz_G} {f : pz_H} {a0 : Nat} {p1 : Int32} {r : Int32} (hf : fnX10_isSpouse f a0 p1 = some r) : pz_Met l G yX10_isSpouse cX10_isSpouse 2 (some .boolean) 1 22 0 0 [.ref a0, .int p1] f (some (.int r)) f ∧ pz_is f a0 9 = some () := by
  unfold fnX10_isSpouse at hf
  obtain ⟨_, h0, hf⟩ := pz_bd hf
  refine ⟨pz_enter (by decide +kernel) (Nat.le_of_ble_eq_true rfl) (fun C hl hC hK hnm => ?_), h0⟩
  subst hl
  refine pz_sub (lv' := [(0, .ref a0), (1, .int p1)]) [0, 1] rfl ?_
  refine pz_iload_n hC dX10_isSpouse_0 1 rfl ?_
  refine pz_iconst (v := (0 : Int32)) hC dX10_isSpouse_1 (by decide) ?_
  refine pz_aload_n hC dX10_isSpouse_2 0 rfl ?_
  refine pz_getR hC dX10_isSpouse_3 fa_X10_7 hf (fun v1 hf => ?_)
  refine pz_iconst (v := (4 : Int32)) hC dX10_isSpouse_6 (by decide) ?_
  refine pz_iald hC dX10_isSpouse_7 hf (fun v2 hf => ?_)
  refine pz_iconst (v := (1 : Int32)) hC dX10_isSpouse_8 (by decide) ?_
  refine pz_isub hC dX10_isSpouse_9 ?_
  refine pz_Si (As := [.int p1, .int (0 : Int32), .int (v2 - (1 : Int32))]) hC hK dX10_isSpouse_10 py_X10_in ps_X10_in lk_X10_52 hf (fun _ h => mX10_in h) rfl rfl (Nat.le_of_ble_eq_true rfl) ⟨by decide, by decide⟩ ⟨by decide, by decide⟩ (fun x3 hf => ?_)
  exact pz_zret hC hK dX10_isSpouse_13 hf
def fnX10_its (f : pz_H) (a0 : Nat) (p1 : Int32) (p2 : Int32) : Option Int32 :=
  (pz_is f a0 9).bind fun _ =>
  (pz_gR f a0 9 1).bind fun v1 =>
  (pz_aI f v1 0 ((((35 : Int32) + ((8 : Int32) * p1)) + p2))).bind fun v2 =>
  some v2
theorem mX10_its {l : Launch} {G : pz_G} {f : pz_H} {a0 : Nat} {p1 : Int32} {p2 : Int32} {r : Int32} (hf : fnX10_its f a0 p1 p2 = some r) : pz_Met l G yX10_its cX10_its 3 (some .int) 0 0 0 0 [.ref a0, .int p1, .int p2] f (some (.int r)) f ∧ pz_is f a0 9 = some () := by
  unfold fnX10_its at hf
  obtain ⟨_, h0, hf⟩ := pz_bd hf
  refine ⟨pz_enter (by decide +kernel) (Nat.le_of_ble_eq_true rfl) (fun C hl hC hK hnm => ?_), h0⟩
  subst hl
  refine pz_sub (lv' := [(0, .ref a0), (1, .int p1), (2, .int p2)]) [0, 1, 2] rfl ?_
  refine pz_aload_n hC dX10_its_0 0 rfl ?_
  refine pz_getR hC dX10_its_1 fa_X10_7 hf (fun v1 hf => ?_)
  refine pz_bipush (v := (35 : Int32)) hC dX10_its_4 (by decide) ?_
  refine pz_bipush (v := (8 : Int32)) hC dX10_its_6 (by decide) ?_
  refine pz_iload_n hC dX10_its_8 1 rfl ?_
  refine pz_imul hC dX10_its_9 ?_
  refine pz_iadd hC dX10_its_10 ?_
  refine pz_iload_n hC dX10_its_11 2 rfl ?_
  refine pz_iadd hC dX10_its_12 ?_
  refine pz_iald hC dX10_its_13 hf (fun v2 hf => ?_)
  exact pz_iret hC hK dX10_its_14 hf
def fX10_isParted_15 (f : pz_H) (s0 : Int32) : Option Int32 :=
  pz_b s0
theorem tX10_isParted_15 {G : pz_G} {C : pz_C} {f : pz_H} {s0 : Int32} {r : Int32} (hC : pz_OK G C cX10_isParted 2 RX10) (hK : pz_K C (some .boolean) 1 22 0 0) (hf : fX10_isParted_15 f s0 = some r) : pz_W G C 2 15 [] [.int s0] f 0 0 (pz_Q G C (some (.int r)) f 0 0) := by
  unfold fX10_isParted_15 at hf
  exact pz_zret hC hK dX10_isParted_15 hf
def fnX10_isParted (f : pz_H) (a0 : Nat) (p1 : Int32) : Option Int32 :=
  (pz_is f a0 9).bind fun _ =>
  (fnX10_its f a0 p1 ((2 : Int32))).bind fun x1 =>
  if x1 = ((-1) : Int32) then fX10_isParted_15 f ((0 : Int32)) else
  fX10_isParted_15 f ((1 : Int32))
theorem mX10_isParted {l : Launch} {G : pz_G} {f : pz_H} {a0 : Nat} {p1 : Int32} {r : Int32} (hf : fnX10_isParted f a0 p1 = some r) : pz_Met l G yX10_isParted cX10_isParted 2 (some .boolean) 1 22 0 0 [.ref a0, .int p1] f (some (.int r)) f ∧ pz_is f a0 9 = some () := by
  unfold fnX10_isParted at hf
  obtain ⟨_, h0, hf⟩ := pz_bd hf
  refine ⟨pz_enter (by decide +kernel) (Nat.le_of_ble_eq_true rfl) (fun C hl hC hK hnm => ?_), h0⟩
  subst hl
  refine pz_sub (lv' := [(0, .ref a0), (1, .int p1)]) [0, 1] rfl ?_
  refine pz_aload_n hC dX10_isParted_0 0 rfl ?_
  refine pz_iload_n hC dX10_isParted_1 1 rfl ?_
  refine pz_iconst (v := (2 : Int32)) hC dX10_isParted_2 (by decide) ?_
  refine pz_Vi (As := [.int p1, .int (2 : Int32)]) hC hK dX10_isParted_3 py_X10_its pv_X10_its lk_X10_56 hf (fun _ h => mX10_its h) rfl rfl (Nat.le_of_ble_eq_true rfl) ⟨by decide, by decide⟩ ⟨by decide, by decide⟩ (fun x1 hf => ?_)
  refine pz_iconst (v := ((-1) : Int32)) hC dX10_isParted_6 (by decide) ?_
  refine pz_icmp_eq hC dX10_isParted_7 hf (fun _ hf => ?_) (fun _ hf => ?_)
  · refine pz_iconst (v := (0 : Int32)) hC dX10_isParted_14 (by decide) ?_
    refine pz_sub [] rfl ?_
    exact tX10_isParted_15 hC hK hf
  · refine pz_iconst (v := (1 : Int32)) hC dX10_isParted_10 (by decide) ?_
    refine pz_goto hC dX10_isParted_11 ?_
    refine pz_sub [] rfl ?_
    exact tX10_isParted_15 hC hK hf
def fnX10_spanOf (f : pz_H) (a0 : Nat) (p1 : Int32) (p2 : Int32) : Option Int32 :=
  (pz_is f a0 9).bind fun _ =>
  (pz_gR f a0 9 1).bind fun v1 =>
  (pz_aI f v1 0 ((((11 : Int32) + ((3 : Int32) * p1)) + p2))).bind fun v2 =>
  some v2
theorem mX10_spanOf {l : Launch} {G : pz_G} {f : pz_H} {a0 : Nat} {p1 : Int32} {p2 : Int32} {r : Int32} (hf : fnX10_spanOf f a0 p1 p2 = some r) : pz_Met l G yX10_spanOf cX10_spanOf 3 (some .int) 0 0 0 0 [.ref a0, .int p1, .int p2] f (some (.int r)) f ∧ pz_is f a0 9 = some () := by
  unfold fnX10_spanOf at hf
  obtain ⟨_, h0, hf⟩ := pz_bd hf
  refine ⟨pz_enter (by decide +kernel) (Nat.le_of_ble_eq_true rfl) (fun C hl hC hK hnm => ?_), h0⟩
  subst hl
  refine pz_sub (lv' := [(0, .ref a0), (1, .int p1), (2, .int p2)]) [0, 1, 2] rfl ?_
  refine pz_aload_n hC dX10_spanOf_0 0 rfl ?_
  refine pz_getR hC dX10_spanOf_1 fa_X10_7 hf (fun v1 hf => ?_)
  refine pz_bipush (v := (11 : Int32)) hC dX10_spanOf_4 (by decide) ?_
  refine pz_iconst (v := (3 : Int32)) hC dX10_spanOf_6 (by decide) ?_
  refine pz_iload_n hC dX10_spanOf_7 1 rfl ?_
  refine pz_imul hC dX10_spanOf_8 ?_
  refine pz_iadd hC dX10_spanOf_9 ?_
  refine pz_iload_n hC dX10_spanOf_10 2 rfl ?_
  refine pz_iadd hC dX10_spanOf_11 ?_
  refine pz_iald hC dX10_spanOf_12 hf (fun v2 hf => ?_)
  exact pz_iret hC hK dX10_spanOf_13 hf
def fX10_serviceIn_81 (k5 : Nat → Int32 → Int32 → Int32 → Int32 → Option Int32) (f : pz_H) (l0 : Nat) (l1 : Int32) (l2 : Int32) (l4 : Int32) (s0 : Int32) (s1 : Int32) : Option Int32 :=
  k5 l0 l1 l2 ((s1 + s0)) ((l4 + 1))
theorem tX10_serviceIn_81 {G : pz_G} {C : pz_C} {f : pz_H} {k5 : Nat → Int32 → Int32 → Int32 → Int32 → Option Int32} {l0 : Nat} {l1 : Int32} {l2 : Int32} {l4 : Int32} {s0 : Int32} {s1 : Int32} {r : Int32} (hC : pz_OK G C cX10_serviceIn 7 RX10) (hK : pz_K C (some .int) 1 22 0 0) (hk5 : ∀ (a0 : Nat) (a1 : Int32) (a2 : Int32) (a3 : Int32) (a4 : Int32), k5 a0 a1 a2 a3 a4 = some r → pz_W G C 7 5 [(0, .ref a0), (1, .int a1), (2, .int a2), (3, .int a3), (4, .int a4)] [] f 0 0 (pz_Q G C (some (.int r)) f 0 0)) (hf : fX10_serviceIn_81 k5 f l0 l1 l2 l4 s0 s1 = some r) : pz_W G C 7 81 [(0, .ref l0), (1, .int l1), (2, .int l2), (4, .int l4)] [.int s0, .int s1] f 0 0 (pz_Q G C (some (.int r)) f 0 0) := by
  unfold fX10_serviceIn_81 at hf
  refine pz_iadd hC dX10_serviceIn_81 ?_
  refine pz_istore_n hC dX10_serviceIn_82 (by decide) rfl ?_
  refine pz_iinc (v := (l4 + 1)) hC dX10_serviceIn_83 4 rfl rfl (by decide) rfl ?_
  refine pz_goto hC dX10_serviceIn_86 ?_
  refine pz_sub [2, 3, 4, 1, 0] rfl ?_
  exact hk5 _ _ _ _ _ hf
def fX10_serviceIn_62 (k5 : Nat → Int32 → Int32 → Int32 → Int32 → Option Int32) (f : pz_H) (l0 : Nat) (l1 : Int32) (l2 : Int32) (l3 : Int32) (l4 : Int32) (l5 : Int32) (s0 : Int32) : Option Int32 :=
  if s0 ≤ l5 then fX10_serviceIn_81 k5 f l0 l1 l2 l4 ((0 : Int32)) l3 else
  fX10_serviceIn_81 k5 f l0 l1 l2 l4 ((s0 - l5)) l3
theorem tX10_serviceIn_62 {G : pz_G} {C : pz_C} {f : pz_H} {k5 : Nat → Int32 → Int32 → Int32 → Int32 → Option Int32} {l0 : Nat} {l1 : Int32} {l2 : Int32} {l3 : Int32} {l4 : Int32} {l5 : Int32} {s0 : Int32} {r : Int32} (hC : pz_OK G C cX10_serviceIn 7 RX10) (hK : pz_K C (some .int) 1 22 0 0) (hk5 : ∀ (a0 : Nat) (a1 : Int32) (a2 : Int32) (a3 : Int32) (a4 : Int32), k5 a0 a1 a2 a3 a4 = some r → pz_W G C 7 5 [(0, .ref a0), (1, .int a1), (2, .int a2), (3, .int a3), (4, .int a4)] [] f 0 0 (pz_Q G C (some (.int r)) f 0 0)) (hf : fX10_serviceIn_62 k5 f l0 l1 l2 l3 l4 l5 s0 = some r) : pz_W G C 7 62 [(0, .ref l0), (1, .int l1), (2, .int l2), (3, .int l3), (4, .int l4), (5, .int l5)] [.int s0] f 0 0 (pz_Q G C (some (.int r)) f 0 0) := by
  unfold fX10_serviceIn_62 at hf
  refine pz_istore hC dX10_serviceIn_62 (by decide) rfl ?_
  refine pz_iload_n hC dX10_serviceIn_64 4 rfl ?_
  refine pz_iload hC dX10_serviceIn_65 0 rfl ?_
  refine pz_iload hC dX10_serviceIn_67 6 rfl ?_
  refine pz_icmp_le hC dX10_serviceIn_69 hf (fun _ hf => ?_) (fun _ hf => ?_)
  · refine pz_iconst (v := (0 : Int32)) hC dX10_serviceIn_80 (by decide) ?_
    refine pz_sub [1, 2, 3, 5] rfl ?_
    exact tX10_serviceIn_81 hC hK hk5 hf
  · refine pz_iload hC dX10_serviceIn_72 0 rfl ?_
    refine pz_iload hC dX10_serviceIn_74 6 rfl ?_
    refine pz_isub hC dX10_serviceIn_76 ?_
    refine pz_goto hC dX10_serviceIn_77 ?_
    refine pz_sub [1, 2, 3, 5] rfl ?_
    exact tX10_serviceIn_81 hC hK hk5 hf
def fX10_serviceIn_38 (k5 : Nat → Int32 → Int32 → Int32 → Int32 → Option Int32) (f : pz_H) (l0 : Nat) (l1 : Int32) (l2 : Int32) (l3 : Int32) (l4 : Int32) (s0 : Int32) : Option Int32 :=
  (fnX10_spanOf f l0 l4 ((1 : Int32))).bind fun x1 =>
  if l2 ≤ x1 then fX10_serviceIn_62 k5 f l0 l1 l2 l3 l4 s0 l2 else
  (fnX10_spanOf f l0 l4 ((1 : Int32))).bind fun x2 =>
  fX10_serviceIn_62 k5 f l0 l1 l2 l3 l4 s0 x2
theorem tX10_serviceIn_38 {G : pz_G} {C : pz_C} {f : pz_H} {k5 : Nat → Int32 → Int32 → Int32 → Int32 → Option Int32} {l0 : Nat} {l1 : Int32} {l2 : Int32} {l3 : Int32} {l4 : Int32} {s0 : Int32} {r : Int32} (hC : pz_OK G C cX10_serviceIn 7 RX10) (hK : pz_K C (some .int) 1 22 0 0) (hk5 : ∀ (a0 : Nat) (a1 : Int32) (a2 : Int32) (a3 : Int32) (a4 : Int32), k5 a0 a1 a2 a3 a4 = some r → pz_W G C 7 5 [(0, .ref a0), (1, .int a1), (2, .int a2), (3, .int a3), (4, .int a4)] [] f 0 0 (pz_Q G C (some (.int r)) f 0 0)) (hf : fX10_serviceIn_38 k5 f l0 l1 l2 l3 l4 s0 = some r) : pz_W G C 7 38 [(0, .ref l0), (1, .int l1), (2, .int l2), (3, .int l3), (4, .int l4)] [.int s0] f 0 0 (pz_Q G C (some (.int r)) f 0 0) := by
  unfold fX10_serviceIn_38 at hf
  refine pz_istore hC dX10_serviceIn_38 (by decide) rfl ?_
  refine pz_aload_n hC dX10_serviceIn_40 1 rfl ?_
  refine pz_iload hC dX10_serviceIn_41 5 rfl ?_
  refine pz_iconst (v := (1 : Int32)) hC dX10_serviceIn_43 (by decide) ?_
  refine pz_Vi (As := [.int l4, .int (1 : Int32)]) hC hK dX10_serviceIn_44 py_X10_spanOf pv_X10_spanOf lk_X10_60 hf (fun _ h => mX10_spanOf h) rfl rfl (Nat.le_of_ble_eq_true rfl) ⟨by decide, by decide⟩ ⟨by decide, by decide⟩ (fun x1 hf => ?_)
  refine pz_iload_n hC dX10_serviceIn_47 3 rfl ?_
  refine pz_icmp_ge hC dX10_serviceIn_48 hf (fun _ hf => ?_) (fun _ hf => ?_)
  · refine pz_iload_n hC dX10_serviceIn_61 3 rfl ?_
    refine pz_sub [1, 2, 3, 4, 5, 0] rfl ?_
    exact tX10_serviceIn_62 hC hK hk5 hf
  · refine pz_aload_n hC dX10_serviceIn_51 1 rfl ?_
    refine pz_iload hC dX10_serviceIn_52 5 rfl ?_
    refine pz_iconst (v := (1 : Int32)) hC dX10_serviceIn_54 (by decide) ?_
    refine pz_Vi (As := [.int l4, .int (1 : Int32)]) hC hK dX10_serviceIn_55 py_X10_spanOf pv_X10_spanOf lk_X10_60 hf (fun _ h => mX10_spanOf h) rfl rfl (Nat.le_of_ble_eq_true rfl) ⟨by decide, by decide⟩ ⟨by decide, by decide⟩ (fun x2 hf => ?_)
    refine pz_goto hC dX10_serviceIn_58 ?_
    refine pz_sub [1, 2, 3, 4, 5, 0] rfl ?_
    exact tX10_serviceIn_62 hC hK hk5 hf
def fX10_serviceIn_5b (k5 : Nat → Int32 → Int32 → Int32 → Int32 → Option Int32) (f : pz_H) (l0 : Nat) (l1 : Int32) (l2 : Int32) (l3 : Int32) (l4 : Int32) : Option Int32 :=
  (pz_gR f l0 9 1).bind fun v1 =>
  (pz_aI f v1 0 ((3 : Int32))).bind fun v2 =>
  if v2 ≤ l4 then some l3 else
  (fnX10_spanOf f l0 l4 ((0 : Int32))).bind fun x3 =>
  if x3 ≤ l1 then fX10_serviceIn_38 k5 f l0 l1 l2 l3 l4 l1 else
  (fnX10_spanOf f l0 l4 ((0 : Int32))).bind fun x4 =>
  fX10_serviceIn_38 k5 f l0 l1 l2 l3 l4 x4
theorem tX10_serviceIn_5b {G : pz_G} {C : pz_C} {f : pz_H} {k5 : Nat → Int32 → Int32 → Int32 → Int32 → Option Int32} {l0 : Nat} {l1 : Int32} {l2 : Int32} {l3 : Int32} {l4 : Int32} {r : Int32} (hC : pz_OK G C cX10_serviceIn 7 RX10) (hK : pz_K C (some .int) 1 22 0 0) (hk5 : ∀ (a0 : Nat) (a1 : Int32) (a2 : Int32) (a3 : Int32) (a4 : Int32), k5 a0 a1 a2 a3 a4 = some r → pz_W G C 7 5 [(0, .ref a0), (1, .int a1), (2, .int a2), (3, .int a3), (4, .int a4)] [] f 0 0 (pz_Q G C (some (.int r)) f 0 0)) (hf : fX10_serviceIn_5b k5 f l0 l1 l2 l3 l4 = some r) : pz_W G C 7 5 [(0, .ref l0), (1, .int l1), (2, .int l2), (3, .int l3), (4, .int l4)] [] f 0 0 (pz_Q G C (some (.int r)) f 0 0) := by
  unfold fX10_serviceIn_5b at hf
  refine pz_iload hC dX10_serviceIn_5 4 rfl ?_
  refine pz_aload_n hC dX10_serviceIn_7 0 rfl ?_
  refine pz_getR hC dX10_serviceIn_8 fa_X10_7 hf (fun v1 hf => ?_)
  refine pz_iconst (v := (3 : Int32)) hC dX10_serviceIn_11 (by decide) ?_
  refine pz_iald hC dX10_serviceIn_12 hf (fun v2 hf => ?_)
  refine pz_icmp_ge hC dX10_serviceIn_13 hf (fun _ hf => ?_) (fun _ hf => ?_)
  · refine pz_iload_n hC dX10_serviceIn_89 3 rfl ?_
    exact pz_iret hC hK dX10_serviceIn_90 hf
  · refine pz_aload_n hC dX10_serviceIn_16 0 rfl ?_
    refine pz_iload hC dX10_serviceIn_17 4 rfl ?_
    refine pz_iconst (v := (0 : Int32)) hC dX10_serviceIn_19 (by decide) ?_
    refine pz_Vi (As := [.int l4, .int (0 : Int32)]) hC hK dX10_serviceIn_20 py_X10_spanOf pv_X10_spanOf lk_X10_60 hf (fun _ h => mX10_spanOf h) rfl rfl (Nat.le_of_ble_eq_true rfl) ⟨by decide, by decide⟩ ⟨by decide, by decide⟩ (fun x3 hf => ?_)
    refine pz_iload_n hC dX10_serviceIn_23 1 rfl ?_
    refine pz_icmp_le hC dX10_serviceIn_24 hf (fun _ hf => ?_) (fun _ hf => ?_)
    · refine pz_iload_n hC dX10_serviceIn_37 1 rfl ?_
      exact tX10_serviceIn_38 hC hK hk5 hf
    · refine pz_aload_n hC dX10_serviceIn_27 0 rfl ?_
      refine pz_iload hC dX10_serviceIn_28 4 rfl ?_
      refine pz_iconst (v := (0 : Int32)) hC dX10_serviceIn_30 (by decide) ?_
      refine pz_Vi (As := [.int l4, .int (0 : Int32)]) hC hK dX10_serviceIn_31 py_X10_spanOf pv_X10_spanOf lk_X10_60 hf (fun _ h => mX10_spanOf h) rfl rfl (Nat.le_of_ble_eq_true rfl) ⟨by decide, by decide⟩ ⟨by decide, by decide⟩ (fun x4 hf => ?_)
      refine pz_goto hC dX10_serviceIn_34 ?_
      exact tX10_serviceIn_38 hC hK hk5 hf
def fX10_serviceIn_5 (f : pz_H) : Nat → Nat → Int32 → Int32 → Int32 → Int32 → Option Int32
  | 0, _, _, _, _, _ => none
  | n + 1, l0, l1, l2, l3, l4 => fX10_serviceIn_5b (fX10_serviceIn_5 f n) f l0 l1 l2 l3 l4
theorem tX10_serviceIn_5 {G : pz_G} {C : pz_C} {f : pz_H} {r : Int32} (hC : pz_OK G C cX10_serviceIn 7 RX10) (hK : pz_K C (some .int) 1 22 0 0) : ∀ (N : Nat) (l0 : Nat) (l1 : Int32) (l2 : Int32) (l3 : Int32) (l4 : Int32), fX10_serviceIn_5 f N l0 l1 l2 l3 l4 = some r → pz_W G C 7 5 [(0, .ref l0), (1, .int l1), (2, .int l2), (3, .int l3), (4, .int l4)] [] f 0 0 (pz_Q G C (some (.int r)) f 0 0) := by
  intro N
  induction N with
  | zero => intro l0 l1 l2 l3 l4 hf; cases hf
  | succ N ih => intro l0 l1 l2 l3 l4 hf; exact tX10_serviceIn_5b hC hK (fun l0 l1 l2 l3 l4 hf => ih l0 l1 l2 l3 l4 hf) hf
def fnX10_serviceIn (f : pz_H) (a0 : Nat) (p1 : Int32) (p2 : Int32) : Option Int32 :=
  (pz_is f a0 9).bind fun _ =>
  fX10_serviceIn_5 f pz_F a0 p1 p2 ((0 : Int32)) ((0 : Int32))
theorem mX10_serviceIn {l : Launch} {G : pz_G} {f : pz_H} {a0 : Nat} {p1 : Int32} {p2 : Int32} {r : Int32} (hf : fnX10_serviceIn f a0 p1 p2 = some r) : pz_Met l G yX10_serviceIn cX10_serviceIn 7 (some .int) 1 22 0 0 [.ref a0, .int p1, .int p2] f (some (.int r)) f ∧ pz_is f a0 9 = some () := by
  unfold fnX10_serviceIn at hf
  obtain ⟨_, h0, hf⟩ := pz_bd hf
  refine ⟨pz_enter (by decide +kernel) (Nat.le_of_ble_eq_true rfl) (fun C hl hC hK hnm => ?_), h0⟩
  subst hl
  refine pz_sub (lv' := [(0, .ref a0), (1, .int p1), (2, .int p2)]) [0, 1, 2] rfl ?_
  refine pz_iconst (v := (0 : Int32)) hC dX10_serviceIn_0 (by decide) ?_
  refine pz_istore_n hC dX10_serviceIn_1 (by decide) rfl ?_
  refine pz_iconst (v := (0 : Int32)) hC dX10_serviceIn_2 (by decide) ?_
  refine pz_istore hC dX10_serviceIn_3 (by decide) rfl ?_
  refine pz_sub [2, 3, 4, 1, 0] rfl ?_
  exact tX10_serviceIn_5 hC hK _ _ _ _ _ _ hf
def fnX10_served (f : pz_H) (a0 : Nat) : Option Int32 :=
  (pz_is f a0 9).bind fun _ =>
  (fnX10_serviceIn f a0 ((0 : Int32)) ((1800 : Int32))).bind fun x1 =>
  some x1
theorem mX10_served {l : Launch} {G : pz_G} {f : pz_H} {a0 : Nat} {r : Int32} (hf : fnX10_served f a0 = some r) : pz_Met l G yX10_served cX10_served 1 (some .int) 2 48 0 0 [.ref a0] f (some (.int r)) f ∧ pz_is f a0 9 = some () := by
  unfold fnX10_served at hf
  obtain ⟨_, h0, hf⟩ := pz_bd hf
  refine ⟨pz_enter (by decide +kernel) (Nat.le_of_ble_eq_true rfl) (fun C hl hC hK hnm => ?_), h0⟩
  subst hl
  refine pz_sub (lv' := [(0, .ref a0)]) [0] rfl ?_
  refine pz_aload_n hC dX10_served_0 0 rfl ?_
  refine pz_iconst (v := (0 : Int32)) hC dX10_served_1 (by decide) ?_
  refine pz_sipush (v := (1800 : Int32)) hC dX10_served_2 (by decide) ?_
  refine pz_Vi (As := [.int (0 : Int32), .int (1800 : Int32)]) hC hK dX10_served_5 py_X10_serviceIn pv_X10_serviceIn lk_X10_63 hf (fun _ h => mX10_serviceIn h) rfl rfl (Nat.le_of_ble_eq_true rfl) ⟨by decide, by decide⟩ ⟨by decide, by decide⟩ (fun x1 hf => ?_)
  exact pz_iret hC hK dX10_served_8 hf
def fX10_finalPay_54 (k14 : Nat → Int64 → Int32 → Int32 → Option Int32) (f : pz_H) (l0 : Nat) (l1 : Int64) (l3 : Int32) (l4 : Int32) (s0 : Int32) : Option Int32 :=
  (fnX10_spanOf f l0 l4 ((2 : Int32))).bind fun x1 =>
  k14 l0 ((l1 + (s0.toInt64 * x1.toInt64))) ((l3 + s0)) ((l4 + (-1)))
theorem tX10_finalPay_54 {G : pz_G} {C : pz_C} {f : pz_H} {k14 : Nat → Int64 → Int32 → Int32 → Option Int32} {l0 : Nat} {l1 : Int64} {l3 : Int32} {l4 : Int32} {s0 : Int32} {r : Int32} (hC : pz_OK G C cX10_finalPay 6 RX10) (hK : pz_K C (some .int) 1 22 0 0) (hk14 : ∀ (a0 : Nat) (a1 : Int64) (a3 : Int32) (a4 : Int32), k14 a0 a1 a3 a4 = some r → pz_W G C 6 14 [(0, .ref a0), (1, .long a1), (3, .int a3), (4, .int a4)] [] f 0 0 (pz_Q G C (some (.int r)) f 0 0)) (hf : fX10_finalPay_54 k14 f l0 l1 l3 l4 s0 = some r) : pz_W G C 6 54 [(0, .ref l0), (1, .long l1), (3, .int l3), (4, .int l4)] [.int s0] f 0 0 (pz_Q G C (some (.int r)) f 0 0) := by
  unfold fX10_finalPay_54 at hf
  refine pz_istore hC dX10_finalPay_54 (by decide) rfl ?_
  refine pz_lload_n hC dX10_finalPay_56 2 rfl ?_
  refine pz_iload hC dX10_finalPay_57 0 rfl ?_
  refine pz_i2l hC dX10_finalPay_59 ?_
  refine pz_aload_n hC dX10_finalPay_60 1 rfl ?_
  refine pz_iload hC dX10_finalPay_61 4 rfl ?_
  refine pz_iconst (v := (2 : Int32)) hC dX10_finalPay_63 (by decide) ?_
  refine pz_Vi (As := [.int l4, .int (2 : Int32)]) hC hK dX10_finalPay_64 py_X10_spanOf pv_X10_spanOf lk_X10_60 hf (fun _ h => mX10_spanOf h) rfl rfl (Nat.le_of_ble_eq_true rfl) ⟨by decide, by decide⟩ ⟨by decide, by decide⟩ (fun x1 hf => ?_)
  refine pz_i2l hC dX10_finalPay_67 ?_
  refine pz_lmul hC dX10_finalPay_68 ?_
  refine pz_ladd hC dX10_finalPay_69 ?_
  refine pz_lstore_n hC dX10_finalPay_70 (by decide) rfl ?_
  refine pz_iload_n hC dX10_finalPay_71 3 rfl ?_
  refine pz_iload hC dX10_finalPay_72 1 rfl ?_
  refine pz_iadd hC dX10_finalPay_74 ?_
  refine pz_istore_n hC dX10_finalPay_75 (by decide) rfl ?_
  refine pz_iinc (v := (l4 + (-1))) hC dX10_finalPay_76 4 rfl rfl (by decide) rfl ?_
  refine pz_goto hC dX10_finalPay_79 ?_
  refine pz_sub [4, 2, 1, 0] rfl ?_
  exact hk14 _ _ _ _ hf
def fX10_finalPay_95 (f : pz_H) (s0 : Int32) : Option Int32 :=
  some s0
theorem tX10_finalPay_95 {G : pz_G} {C : pz_C} {f : pz_H} {s0 : Int32} {r : Int32} (hC : pz_OK G C cX10_finalPay 6 RX10) (hK : pz_K C (some .int) 1 22 0 0) (hf : fX10_finalPay_95 f s0 = some r) : pz_W G C 6 95 [] [.int s0] f 0 0 (pz_Q G C (some (.int r)) f 0 0) := by
  unfold fX10_finalPay_95 at hf
  exact pz_iret hC hK dX10_finalPay_95 hf
def fX10_finalPay_14b (k14 : Nat → Int64 → Int32 → Int32 → Option Int32) (f : pz_H) (l0 : Nat) (l1 : Int64) (l3 : Int32) (l4 : Int32) : Option Int32 :=
  if l4 < 0 then if l3 = 0 then fX10_finalPay_95 f ((0 : Int32)) else
  if l3.toInt64 = 0 then none else
  fX10_finalPay_95 f (((l1 / l3.toInt64)).toInt32) else
  (fnX10_spanOf f l0 l4 ((1 : Int32))).bind fun x1 =>
  (fnX10_spanOf f l0 l4 ((0 : Int32))).bind fun x2 =>
  if (x1 - x2) ≤ ((36 : Int32) - l3) then fX10_finalPay_54 k14 f l0 l1 l3 l4 ((x1 - x2)) else
  fX10_finalPay_54 k14 f l0 l1 l3 l4 (((36 : Int32) - l3))
theorem tX10_finalPay_14b {G : pz_G} {C : pz_C} {f : pz_H} {k14 : Nat → Int64 → Int32 → Int32 → Option Int32} {l0 : Nat} {l1 : Int64} {l3 : Int32} {l4 : Int32} {r : Int32} (hC : pz_OK G C cX10_finalPay 6 RX10) (hK : pz_K C (some .int) 1 22 0 0) (hk14 : ∀ (a0 : Nat) (a1 : Int64) (a3 : Int32) (a4 : Int32), k14 a0 a1 a3 a4 = some r → pz_W G C 6 14 [(0, .ref a0), (1, .long a1), (3, .int a3), (4, .int a4)] [] f 0 0 (pz_Q G C (some (.int r)) f 0 0)) (hf : fX10_finalPay_14b k14 f l0 l1 l3 l4 = some r) : pz_W G C 6 14 [(0, .ref l0), (1, .long l1), (3, .int l3), (4, .int l4)] [] f 0 0 (pz_Q G C (some (.int r)) f 0 0) := by
  unfold fX10_finalPay_14b at hf
  refine pz_iload hC dX10_finalPay_14 3 rfl ?_
  refine pz_if_lt hC dX10_finalPay_16 hf (fun _ hf => ?_) (fun _ hf => ?_)
  · refine pz_iload_n hC dX10_finalPay_82 2 rfl ?_
    refine pz_if_ne hC dX10_finalPay_83 hf (fun _ hf => ?_) (fun _ hf => ?_)
    · refine pz_lload_n hC dX10_finalPay_90 1 rfl ?_
      refine pz_iload_n hC dX10_finalPay_91 2 rfl ?_
      refine pz_i2l hC dX10_finalPay_92 ?_
      refine pz_ldiv hC dX10_finalPay_93 hf (fun hf => ?_)
      refine pz_l2i hC dX10_finalPay_94 ?_
      refine pz_sub [] rfl ?_
      exact tX10_finalPay_95 hC hK hf
    · refine pz_iconst (v := (0 : Int32)) hC dX10_finalPay_86 (by decide) ?_
      refine pz_goto hC dX10_finalPay_87 ?_
      refine pz_sub [] rfl ?_
      exact tX10_finalPay_95 hC hK hf
  · refine pz_aload_n hC dX10_finalPay_19 0 rfl ?_
    refine pz_iload hC dX10_finalPay_20 3 rfl ?_
    refine pz_iconst (v := (1 : Int32)) hC dX10_finalPay_22 (by decide) ?_
    refine pz_Vi (As := [.int l4, .int (1 : Int32)]) hC hK dX10_finalPay_23 py_X10_spanOf pv_X10_spanOf lk_X10_60 hf (fun _ h => mX10_spanOf h) rfl rfl (Nat.le_of_ble_eq_true rfl) ⟨by decide, by decide⟩ ⟨by decide, by decide⟩ (fun x1 hf => ?_)
    refine pz_aload_n hC dX10_finalPay_26 0 rfl ?_
    refine pz_iload hC dX10_finalPay_27 3 rfl ?_
    refine pz_iconst (v := (0 : Int32)) hC dX10_finalPay_29 (by decide) ?_
    refine pz_Vi (As := [.int l4, .int (0 : Int32)]) hC hK dX10_finalPay_30 py_X10_spanOf pv_X10_spanOf lk_X10_60 hf (fun _ h => mX10_spanOf h) rfl rfl (Nat.le_of_ble_eq_true rfl) ⟨by decide, by decide⟩ ⟨by decide, by decide⟩ (fun x2 hf => ?_)
    refine pz_isub hC dX10_finalPay_33 ?_
    refine pz_istore hC dX10_finalPay_34 (by decide) rfl ?_
    refine pz_iload hC dX10_finalPay_36 0 rfl ?_
    refine pz_bipush (v := (36 : Int32)) hC dX10_finalPay_38 (by decide) ?_
    refine pz_iload_n hC dX10_finalPay_40 3 rfl ?_
    refine pz_isub hC dX10_finalPay_41 ?_
    refine pz_icmp_le hC dX10_finalPay_42 hf (fun _ hf => ?_) (fun _ hf => ?_)
    · refine pz_iload hC dX10_finalPay_52 0 rfl ?_
      refine pz_sub [1, 2, 3, 4] rfl ?_
      exact tX10_finalPay_54 hC hK hk14 hf
    · refine pz_bipush (v := (36 : Int32)) hC dX10_finalPay_45 (by decide) ?_
      refine pz_iload_n hC dX10_finalPay_47 3 rfl ?_
      refine pz_isub hC dX10_finalPay_48 ?_
      refine pz_goto hC dX10_finalPay_49 ?_
      refine pz_sub [1, 2, 3, 4] rfl ?_
      exact tX10_finalPay_54 hC hK hk14 hf
def fX10_finalPay_14 (f : pz_H) : Nat → Nat → Int64 → Int32 → Int32 → Option Int32
  | 0, _, _, _, _ => none
  | n + 1, l0, l1, l3, l4 => fX10_finalPay_14b (fX10_finalPay_14 f n) f l0 l1 l3 l4
theorem tX10_finalPay_14 {G : pz_G} {C : pz_C} {f : pz_H} {r : Int32} (hC : pz_OK G C cX10_finalPay 6 RX10) (hK : pz_K C (some .int) 1 22 0 0) : ∀ (N : Nat) (l0 : Nat) (l1 : Int64) (l3 : Int32) (l4 : Int32), fX10_finalPay_14 f N l0 l1 l3 l4 = some r → pz_W G C 6 14 [(0, .ref l0), (1, .long l1), (3, .int l3), (4, .int l4)] [] f 0 0 (pz_Q G C (some (.int r)) f 0 0) := by
  intro N
  induction N with
  | zero => intro l0 l1 l3 l4 hf; cases hf
  | succ N ih => intro l0 l1 l3 l4 hf; exact tX10_finalPay_14b hC hK (fun l0 l1 l3 l4 hf => ih l0 l1 l3 l4 hf) hf
def fnX10_finalPay (f : pz_H) (a0 : Nat) : Option Int32 :=
  (pz_is f a0 9).bind fun _ =>
  (pz_gR f a0 9 1).bind fun v1 =>
  (pz_aI f v1 0 ((3 : Int32))).bind fun v2 =>
  fX10_finalPay_14 f pz_F a0 ((0 : Int64)) ((0 : Int32)) ((v2 - (1 : Int32)))
theorem mX10_finalPay {l : Launch} {G : pz_G} {f : pz_H} {a0 : Nat} {r : Int32} (hf : fnX10_finalPay f a0 = some r) : pz_Met l G yX10_finalPay cX10_finalPay 6 (some .int) 1 22 0 0 [.ref a0] f (some (.int r)) f ∧ pz_is f a0 9 = some () := by
  unfold fnX10_finalPay at hf
  obtain ⟨_, h0, hf⟩ := pz_bd hf
  refine ⟨pz_enter (by decide +kernel) (Nat.le_of_ble_eq_true rfl) (fun C hl hC hK hnm => ?_), h0⟩
  subst hl
  refine pz_sub (lv' := [(0, .ref a0)]) [0] rfl ?_
  refine pz_lconst (v := 0) hC dX10_finalPay_0 (by decide) ?_
  refine pz_lstore_n hC dX10_finalPay_1 (by decide) rfl ?_
  refine pz_iconst (v := (0 : Int32)) hC dX10_finalPay_2 (by decide) ?_
  refine pz_istore_n hC dX10_finalPay_3 (by decide) rfl ?_
  refine pz_aload_n hC dX10_finalPay_4 2 rfl ?_
  refine pz_getR hC dX10_finalPay_5 fa_X10_7 hf (fun v1 hf => ?_)
  refine pz_iconst (v := (3 : Int32)) hC dX10_finalPay_8 (by decide) ?_
  refine pz_iald hC dX10_finalPay_9 hf (fun v2 hf => ?_)
  refine pz_iconst (v := (1 : Int32)) hC dX10_finalPay_10 (by decide) ?_
  refine pz_isub hC dX10_finalPay_11 ?_
  refine pz_istore hC dX10_finalPay_12 (by decide) rfl ?_
  refine pz_sub [3, 2, 1, 0] rfl ?_
  exact tX10_finalPay_14 hC hK _ _ _ _ _ hf
def fnX10_base (f : pz_H) (a0 : Nat) : Option Int32 :=
  (pz_is f a0 9).bind fun _ =>
  (fnX10_finalPay f a0).bind fun x1 =>
  (pz_gR f a0 9 1).bind fun v2 =>
  (pz_aI f v2 0 ((6 : Int32))).bind fun v3 =>
  (fnX10_served f a0).bind fun x4 =>
  some (((((x1.toInt64 * v3.toInt64) * x4.toInt64) / (120000 : Int64))).toInt32)
theorem mX10_base {l : Launch} {G : pz_G} {f : pz_H} {a0 : Nat} {r : Int32} (hf : fnX10_base f a0 = some r) : pz_Met l G yX10_base cX10_base 1 (some .int) 3 68 0 0 [.ref a0] f (some (.int r)) f ∧ pz_is f a0 9 = some () := by
  unfold fnX10_base at hf
  obtain ⟨_, h0, hf⟩ := pz_bd hf
  refine ⟨pz_enter (by decide +kernel) (Nat.le_of_ble_eq_true rfl) (fun C hl hC hK hnm => ?_), h0⟩
  subst hl
  refine pz_sub (lv' := [(0, .ref a0)]) [0] rfl ?_
  refine pz_aload_n hC dX10_base_0 0 rfl ?_
  refine pz_Vi (As := []) hC hK dX10_base_1 py_X10_finalPay pv_X10_finalPay lk_X10_66 hf (fun _ h => mX10_finalPay h) rfl rfl (Nat.le_of_ble_eq_true rfl) ⟨by decide, by decide⟩ ⟨by decide, by decide⟩ (fun x1 hf => ?_)
  refine pz_i2l hC dX10_base_4 ?_
  refine pz_aload_n hC dX10_base_5 0 rfl ?_
  refine pz_getR hC dX10_base_6 fa_X10_7 hf (fun v2 hf => ?_)
  refine pz_bipush (v := (6 : Int32)) hC dX10_base_9 (by decide) ?_
  refine pz_iald hC dX10_base_11 hf (fun v3 hf => ?_)
  refine pz_i2l hC dX10_base_12 ?_
  refine pz_lmul hC dX10_base_13 ?_
  refine pz_aload_n hC dX10_base_14 0 rfl ?_
  refine pz_Vi (As := []) hC hK dX10_base_15 py_X10_served pv_X10_served lk_X10_70 hf (fun _ h => mX10_served h) rfl rfl (Nat.le_of_ble_eq_true rfl) ⟨by decide, by decide⟩ ⟨by decide, by decide⟩ (fun x4 hf => ?_)
  refine pz_i2l hC dX10_base_18 ?_
  refine pz_lmul hC dX10_base_19 ?_
  refine pz_ldc2 hC dX10_base_20 ck_X10_73 ?_
  refine pz_ldivc hC dX10_base_23 (by decide) ?_
  refine pz_l2i hC dX10_base_24 ?_
  exact pz_iret hC hK dX10_base_25 hf
def fX10_firstPaid_79 (f : pz_H) (s0 : Int32) : Option Int32 :=
  some s0
theorem tX10_firstPaid_79 {G : pz_G} {C : pz_C} {f : pz_H} {s0 : Int32} {r : Int32} (hC : pz_OK G C cX10_firstPaid 3 RX10) (hK : pz_K C (some .int) 4 88 0 0) (hf : fX10_firstPaid_79 f s0 = some r) : pz_W G C 3 79 [] [.int s0] f 0 0 (pz_Q G C (some (.int r)) f 0 0) := by
  unfold fX10_firstPaid_79 at hf
  exact pz_iret hC hK dX10_firstPaid_79 hf
def fX10_firstPaid_57 (f : pz_H) (l0 : Nat) (s0 : Int32) : Option Int32 :=
  if s0 ≤ 0 then fX10_firstPaid_79 f ((0 : Int32)) else
  (fnX10_base f l0).bind fun x1 =>
  fX10_firstPaid_79 f ((((x1.toInt64 * s0.toInt64) / (1000 : Int64))).toInt32)
theorem tX10_firstPaid_57 {G : pz_G} {C : pz_C} {f : pz_H} {l0 : Nat} {s0 : Int32} {r : Int32} (hC : pz_OK G C cX10_firstPaid 3 RX10) (hK : pz_K C (some .int) 4 88 0 0) (hf : fX10_firstPaid_57 f l0 s0 = some r) : pz_W G C 3 57 [(0, .ref l0)] [.int s0] f 0 0 (pz_Q G C (some (.int r)) f 0 0) := by
  unfold fX10_firstPaid_57 at hf
  refine pz_istore_n hC dX10_firstPaid_57 (by decide) rfl ?_
  refine pz_iload_n hC dX10_firstPaid_58 0 rfl ?_
  refine pz_if_le hC dX10_firstPaid_59 hf (fun _ hf => ?_) (fun _ hf => ?_)
  · refine pz_iconst (v := (0 : Int32)) hC dX10_firstPaid_78 (by decide) ?_
    refine pz_sub [] rfl ?_
    exact tX10_firstPaid_79 hC hK hf
  · refine pz_aload_n hC dX10_firstPaid_62 1 rfl ?_
    refine pz_Vi (As := []) hC hK dX10_firstPaid_63 py_X10_base pv_X10_base lk_X10_75 hf (fun _ h => mX10_base h) rfl rfl (Nat.le_of_ble_eq_true rfl) ⟨by decide, by decide⟩ ⟨by decide, by decide⟩ (fun x1 hf => ?_)
    refine pz_i2l hC dX10_firstPaid_66 ?_
    refine pz_iload_n hC dX10_firstPaid_67 0 rfl ?_
    refine pz_i2l hC dX10_firstPaid_68 ?_
    refine pz_lmul hC dX10_firstPaid_69 ?_
    refine pz_ldc2 hC dX10_firstPaid_70 ck_X10_78 ?_
    refine pz_ldivc hC dX10_firstPaid_73 (by decide) ?_
    refine pz_l2i hC dX10_firstPaid_74 ?_
    refine pz_goto hC dX10_firstPaid_75 ?_
    refine pz_sub [] rfl ?_
    exact tX10_firstPaid_79 hC hK hf
def fnX10_firstPaid (f : pz_H) (a0 : Nat) : Option Int32 :=
  (pz_is f a0 9).bind fun _ =>
  (pz_gR f a0 9 1).bind fun v1 =>
  (pz_aI f v1 0 ((1 : Int32))).bind fun v2 =>
  if v2 = ((-1) : Int32) then some ((0 : Int32)) else
  (pz_gR f a0 9 1).bind fun v3 =>
  (pz_aI f v3 0 ((7 : Int32))).bind fun v4 =>
  (pz_gR f a0 9 1).bind fun v5 =>
  (pz_aI f v5 0 ((1 : Int32))).bind fun v6 =>
  (pz_gR f a0 9 1).bind fun v7 =>
  (pz_aI f v7 0 ((0 : Int32))).bind fun v8 =>
  if (v4 - (v6 - v8)) ≤ 0 then fX10_firstPaid_57 f a0 ((1000 : Int32)) else
  (pz_gR f a0 9 1).bind fun v9 =>
  (pz_aI f v9 0 ((8 : Int32))).bind fun v10 =>
  fX10_firstPaid_57 f a0 (((1000 : Int32) - (v10 * (v4 - (v6 - v8)))))
theorem mX10_firstPaid {l : Launch} {G : pz_G} {f : pz_H} {a0 : Nat} {r : Int32} (hf : fnX10_firstPaid f a0 = some r) : pz_Met l G yX10_firstPaid cX10_firstPaid 3 (some .int) 4 88 0 0 [.ref a0] f (some (.int r)) f ∧ pz_is f a0 9 = some () := by
  unfold fnX10_firstPaid at hf
  obtain ⟨_, h0, hf⟩ := pz_bd hf
  refine ⟨pz_enter (by decide +kernel) (Nat.le_of_ble_eq_true rfl) (fun C hl hC hK hnm => ?_), h0⟩
  subst hl
  refine pz_sub (lv' := [(0, .ref a0)]) [0] rfl ?_
  refine pz_aload_n hC dX10_firstPaid_0 0 rfl ?_
  refine pz_getR hC dX10_firstPaid_1 fa_X10_7 hf (fun v1 hf => ?_)
  refine pz_iconst (v := (1 : Int32)) hC dX10_firstPaid_4 (by decide) ?_
  refine pz_iald hC dX10_firstPaid_5 hf (fun v2 hf => ?_)
  refine pz_iconst (v := ((-1) : Int32)) hC dX10_firstPaid_6 (by decide) ?_
  refine pz_icmp_ne hC dX10_firstPaid_7 hf (fun _ hf => ?_) (fun _ hf => ?_)
  · refine pz_aload_n hC dX10_firstPaid_12 0 rfl ?_
    refine pz_getR hC dX10_firstPaid_13 fa_X10_7 hf (fun v3 hf => ?_)
    refine pz_bipush (v := (7 : Int32)) hC dX10_firstPaid_16 (by decide) ?_
    refine pz_iald hC dX10_firstPaid_18 hf (fun v4 hf => ?_)
    refine pz_aload_n hC dX10_firstPaid_19 0 rfl ?_
    refine pz_getR hC dX10_firstPaid_20 fa_X10_7 hf (fun v5 hf => ?_)
    refine pz_iconst (v := (1 : Int32)) hC dX10_firstPaid_23 (by decide) ?_
    refine pz_iald hC dX10_firstPaid_24 hf (fun v6 hf => ?_)
    refine pz_aload_n hC dX10_firstPaid_25 0 rfl ?_
    refine pz_getR hC dX10_firstPaid_26 fa_X10_7 hf (fun v7 hf => ?_)
    refine pz_iconst (v := (0 : Int32)) hC dX10_firstPaid_29 (by decide) ?_
    refine pz_iald hC dX10_firstPaid_30 hf (fun v8 hf => ?_)
    refine pz_isub hC dX10_firstPaid_31 ?_
    refine pz_isub hC dX10_firstPaid_32 ?_
    refine pz_istore_n hC dX10_firstPaid_33 (by decide) rfl ?_
    refine pz_iload_n hC dX10_firstPaid_34 0 rfl ?_
    refine pz_if_le hC dX10_firstPaid_35 hf (fun _ hf => ?_) (fun _ hf => ?_)
    · refine pz_sipush (v := (1000 : Int32)) hC dX10_firstPaid_54 (by decide) ?_
      refine pz_sub [1] rfl ?_
      exact tX10_firstPaid_57 hC hK hf
    · refine pz_sipush (v := (1000 : Int32)) hC dX10_firstPaid_38 (by decide) ?_
      refine pz_aload_n hC dX10_firstPaid_41 1 rfl ?_
      refine pz_getR hC dX10_firstPaid_42 fa_X10_7 hf (fun v9 hf => ?_)
      refine pz_bipush (v := (8 : Int32)) hC dX10_firstPaid_45 (by decide) ?_
      refine pz_iald hC dX10_firstPaid_47 hf (fun v10 hf => ?_)
      refine pz_iload_n hC dX10_firstPaid_48 0 rfl ?_
      refine pz_imul hC dX10_firstPaid_49 ?_
      refine pz_isub hC dX10_firstPaid_50 ?_
      refine pz_goto hC dX10_firstPaid_51 ?_
      refine pz_sub [1] rfl ?_
      exact tX10_firstPaid_57 hC hK hf
  · refine pz_iconst (v := (0 : Int32)) hC dX10_firstPaid_10 (by decide) ?_
    exact pz_iret hC hK dX10_firstPaid_11 hf
def fX10_laysWholes_118 (k21 : pz_H → Nat → Int64 → Int32 → Option pz_H) (f : pz_H) (l0 : Nat) (l1 : Int64) (l3 : Int32) (s0 : Int64) (s1 : Int32) (s2 : Nat) : Option pz_H :=
  (pz_tL f s2 1 s1 s0).bind fun f1 =>
  k21 f1 l0 l1 ((l3 + 1))
theorem tX10_laysWholes_118 {G : pz_G} {C : pz_C} {f : pz_H} {k21 : pz_H → Nat → Int64 → Int32 → Option pz_H} {l0 : Nat} {l1 : Int64} {l3 : Int32} {s0 : Int64} {s1 : Int32} {s2 : Nat} {r : pz_H} (hC : pz_OK G C cX10_laysWholes 6 RX10) (hK : pz_K C none 5 110 0 0) (hk21 : ∀ (g : pz_H) (a0 : Nat) (a1 : Int64) (a3 : Int32), k21 g a0 a1 a3 = some r → pz_W G C 6 21 [(0, .ref a0), (1, .long a1), (3, .int a3)] [] g 0 0 (pz_Q G C none r 0 0)) (hf : fX10_laysWholes_118 k21 f l0 l1 l3 s0 s1 s2 = some r) : pz_W G C 6 118 [(0, .ref l0), (1, .long l1), (3, .int l3)] [.long s0, .int s1, .ref s2] f 0 0 (pz_Q G C none r 0 0) := by
  unfold fX10_laysWholes_118 at hf
  refine pz_last hC dX10_laysWholes_118 hf (fun f1 hf => ?_)
  refine pz_iinc (v := (l3 + 1)) hC dX10_laysWholes_119 2 rfl rfl (by decide) rfl ?_
  refine pz_goto hC dX10_laysWholes_122 ?_
  refine pz_sub [1, 2, 0] rfl ?_
  exact hk21 _ _ _ _ hf
def fX10_laysWholes_103 (k21 : pz_H → Nat → Int64 → Int32 → Option pz_H) (f : pz_H) (l0 : Nat) (l1 : Int64) (l3 : Int32) (l4 : Int32) : Option pz_H :=
  (pz_gR f l0 9 5).bind fun v1 =>
  if l4 = 0 then fX10_laysWholes_118 k21 f l0 l1 l3 ((0 : Int64)) l3 v1 else
  fX10_laysWholes_118 k21 f l0 l1 l3 l1 l3 v1
theorem tX10_laysWholes_103 {G : pz_G} {C : pz_C} {f : pz_H} {k21 : pz_H → Nat → Int64 → Int32 → Option pz_H} {l0 : Nat} {l1 : Int64} {l3 : Int32} {l4 : Int32} {r : pz_H} (hC : pz_OK G C cX10_laysWholes 6 RX10) (hK : pz_K C none 5 110 0 0) (hk21 : ∀ (g : pz_H) (a0 : Nat) (a1 : Int64) (a3 : Int32), k21 g a0 a1 a3 = some r → pz_W G C 6 21 [(0, .ref a0), (1, .long a1), (3, .int a3)] [] g 0 0 (pz_Q G C none r 0 0)) (hf : fX10_laysWholes_103 k21 f l0 l1 l3 l4 = some r) : pz_W G C 6 103 [(0, .ref l0), (1, .long l1), (3, .int l3), (4, .int l4)] [] f 0 0 (pz_Q G C none r 0 0) := by
  unfold fX10_laysWholes_103 at hf
  refine pz_aload_n hC dX10_laysWholes_103 0 rfl ?_
  refine pz_getR hC dX10_laysWholes_104 fa_X10_19 hf (fun v1 hf => ?_)
  refine pz_iload_n hC dX10_laysWholes_107 2 rfl ?_
  refine pz_iload hC dX10_laysWholes_108 3 rfl ?_
  refine pz_if_eq hC dX10_laysWholes_110 hf (fun _ hf => ?_) (fun _ hf => ?_)
  · refine pz_lconst (v := 0) hC dX10_laysWholes_117 (by decide) ?_
    refine pz_sub [0, 1, 2] rfl ?_
    exact tX10_laysWholes_118 hC hK hk21 hf
  · refine pz_lload_n hC dX10_laysWholes_113 1 rfl ?_
    refine pz_goto hC dX10_laysWholes_114 ?_
    refine pz_sub [0, 1, 2] rfl ?_
    exact tX10_laysWholes_118 hC hK hk21 hf
def fX10_laysWholes_53 (k21 : pz_H → Nat → Int64 → Int32 → Option pz_H) (f : pz_H) (l0 : Nat) (l1 : Int64) (l3 : Int32) (s0 : Int32) : Option pz_H :=
  if s0 = 0 then fX10_laysWholes_103 k21 f l0 l1 l3 s0 else
  (pz_gR f l0 9 1).bind fun v1 =>
  (pz_aI f v1 0 ((1 : Int32))).bind fun v2 =>
  if l3 ≤ v2 then fX10_laysWholes_103 k21 f l0 l1 l3 s0 else
  (pz_gR f l0 9 1).bind fun v3 =>
  (pz_aI f v3 0 ((1 : Int32))).bind fun v4 =>
  if ((l3 - v4) - (l3 - v4) / (12 : Int32) * (12 : Int32)) = 0 then (pz_gR f l0 9 1).bind fun v5 =>
  (pz_aI f v5 0 ((9 : Int32))).bind fun v6 =>
  fX10_laysWholes_103 k21 f l0 (((l1 * (((1000 : Int32) + v6)).toInt64) / (1000 : Int64))) l3 s0 else
  fX10_laysWholes_103 k21 f l0 l1 l3 s0
theorem tX10_laysWholes_53 {G : pz_G} {C : pz_C} {f : pz_H} {k21 : pz_H → Nat → Int64 → Int32 → Option pz_H} {l0 : Nat} {l1 : Int64} {l3 : Int32} {s0 : Int32} {r : pz_H} (hC : pz_OK G C cX10_laysWholes 6 RX10) (hK : pz_K C none 5 110 0 0) (hk21 : ∀ (g : pz_H) (a0 : Nat) (a1 : Int64) (a3 : Int32), k21 g a0 a1 a3 = some r → pz_W G C 6 21 [(0, .ref a0), (1, .long a1), (3, .int a3)] [] g 0 0 (pz_Q G C none r 0 0)) (hf : fX10_laysWholes_53 k21 f l0 l1 l3 s0 = some r) : pz_W G C 6 53 [(0, .ref l0), (1, .long l1), (3, .int l3)] [.int s0] f 0 0 (pz_Q G C none r 0 0) := by
  unfold fX10_laysWholes_53 at hf
  refine pz_istore hC dX10_laysWholes_53 (by decide) rfl ?_
  refine pz_iload hC dX10_laysWholes_55 0 rfl ?_
  refine pz_if_eq hC dX10_laysWholes_57 hf (fun _ hf => ?_) (fun _ hf => ?_)
  · refine pz_sub [1, 2, 3, 0] rfl ?_
    exact tX10_laysWholes_103 hC hK hk21 hf
  · refine pz_iload_n hC dX10_laysWholes_60 3 rfl ?_
    refine pz_aload_n hC dX10_laysWholes_61 1 rfl ?_
    refine pz_getR hC dX10_laysWholes_62 fa_X10_7 hf (fun v1 hf => ?_)
    refine pz_iconst (v := (1 : Int32)) hC dX10_laysWholes_65 (by decide) ?_
    refine pz_iald hC dX10_laysWholes_66 hf (fun v2 hf => ?_)
    refine pz_icmp_le hC dX10_laysWholes_67 hf (fun _ hf => ?_) (fun _ hf => ?_)
    · refine pz_sub [1, 2, 3, 0] rfl ?_
      exact tX10_laysWholes_103 hC hK hk21 hf
    · refine pz_iload_n hC dX10_laysWholes_70 3 rfl ?_
      refine pz_aload_n hC dX10_laysWholes_71 1 rfl ?_
      refine pz_getR hC dX10_laysWholes_72 fa_X10_7 hf (fun v3 hf => ?_)
      refine pz_iconst (v := (1 : Int32)) hC dX10_laysWholes_75 (by decide) ?_
      refine pz_iald hC dX10_laysWholes_76 hf (fun v4 hf => ?_)
      refine pz_isub hC dX10_laysWholes_77 ?_
      refine pz_bipush (v := (12 : Int32)) hC dX10_laysWholes_78 (by decide) ?_
      refine pz_iremc hC dX10_laysWholes_80 (by decide) ?_
      refine pz_if_ne hC dX10_laysWholes_81 hf (fun _ hf => ?_) (fun _ hf => ?_)
      · refine pz_sub [1, 2, 3, 0] rfl ?_
        exact tX10_laysWholes_103 hC hK hk21 hf
      · refine pz_lload_n hC dX10_laysWholes_84 2 rfl ?_
        refine pz_sipush (v := (1000 : Int32)) hC dX10_laysWholes_85 (by decide) ?_
        refine pz_aload_n hC dX10_laysWholes_88 1 rfl ?_
        refine pz_getR hC dX10_laysWholes_89 fa_X10_7 hf (fun v5 hf => ?_)
        refine pz_bipush (v := (9 : Int32)) hC dX10_laysWholes_92 (by decide) ?_
        refine pz_iald hC dX10_laysWholes_94 hf (fun v6 hf => ?_)
        refine pz_iadd hC dX10_laysWholes_95 ?_
        refine pz_i2l hC dX10_laysWholes_96 ?_
        refine pz_lmul hC dX10_laysWholes_97 ?_
        refine pz_ldc2 hC dX10_laysWholes_98 ck_X10_78 ?_
        refine pz_ldivc hC dX10_laysWholes_101 (by decide) ?_
        refine pz_lstore_n hC dX10_laysWholes_102 (by decide) rfl ?_
        refine pz_sub [2, 0, 3, 1] rfl ?_
        exact tX10_laysWholes_103 hC hK hk21 hf
def fX10_laysWholes_52 (k21 : pz_H → Nat → Int64 → Int32 → Option pz_H) (f : pz_H) (l0 : Nat) (l1 : Int64) (l3 : Int32) : Option pz_H :=
  fX10_laysWholes_53 k21 f l0 l1 l3 ((0 : Int32))
theorem tX10_laysWholes_52 {G : pz_G} {C : pz_C} {f : pz_H} {k21 : pz_H → Nat → Int64 → Int32 → Option pz_H} {l0 : Nat} {l1 : Int64} {l3 : Int32} {r : pz_H} (hC : pz_OK G C cX10_laysWholes 6 RX10) (hK : pz_K C none 5 110 0 0) (hk21 : ∀ (g : pz_H) (a0 : Nat) (a1 : Int64) (a3 : Int32), k21 g a0 a1 a3 = some r → pz_W G C 6 21 [(0, .ref a0), (1, .long a1), (3, .int a3)] [] g 0 0 (pz_Q G C none r 0 0)) (hf : fX10_laysWholes_52 k21 f l0 l1 l3 = some r) : pz_W G C 6 52 [(0, .ref l0), (1, .long l1), (3, .int l3)] [] f 0 0 (pz_Q G C none r 0 0) := by
  unfold fX10_laysWholes_52 at hf
  refine pz_iconst (v := (0 : Int32)) hC dX10_laysWholes_52 (by decide) ?_
  exact tX10_laysWholes_53 hC hK hk21 hf
def fX10_laysWholes_132b (k132 : pz_H → Nat → Int64 → Int32 → Option pz_H) (f : pz_H) (l0 : Nat) (l3 : Int64) (l5 : Int32) : Option pz_H :=
  if (1800 : Int32) ≤ l5 then some f else
  (pz_gR f l0 9 7).bind fun v1 =>
  (pz_tL f v1 1 l5 l3).bind fun f2 =>
  (pz_gR f2 l0 9 1).bind fun v3 =>
  (pz_aI f2 v3 0 ((10 : Int32))).bind fun v4 =>
  if ((12000 : Int64) + v4.toInt64) = 0 then none else
  k132 f2 l0 (((l3 * (12000 : Int64)) / ((12000 : Int64) + v4.toInt64))) ((l5 + 1))
theorem tX10_laysWholes_132b {G : pz_G} {C : pz_C} {f : pz_H} {k132 : pz_H → Nat → Int64 → Int32 → Option pz_H} {l0 : Nat} {l3 : Int64} {l5 : Int32} {r : pz_H} (hC : pz_OK G C cX10_laysWholes 6 RX10) (hK : pz_K C none 5 110 0 0) (hk132 : ∀ (g : pz_H) (a0 : Nat) (a3 : Int64) (a5 : Int32), k132 g a0 a3 a5 = some r → pz_W G C 6 132 [(0, .ref a0), (3, .long a3), (5, .int a5)] [] g 0 0 (pz_Q G C none r 0 0)) (hf : fX10_laysWholes_132b k132 f l0 l3 l5 = some r) : pz_W G C 6 132 [(0, .ref l0), (3, .long l3), (5, .int l5)] [] f 0 0 (pz_Q G C none r 0 0) := by
  unfold fX10_laysWholes_132b at hf
  refine pz_iload hC dX10_laysWholes_132 2 rfl ?_
  refine pz_sipush (v := (1800 : Int32)) hC dX10_laysWholes_134 (by decide) ?_
  refine pz_icmp_ge hC dX10_laysWholes_137 hf (fun _ hf => ?_) (fun _ hf => ?_)
  · exact pz_vret hC hK dX10_laysWholes_173 hf
  · refine pz_aload_n hC dX10_laysWholes_140 0 rfl ?_
    refine pz_getR hC dX10_laysWholes_141 fa_X10_23 hf (fun v1 hf => ?_)
    refine pz_iload hC dX10_laysWholes_144 2 rfl ?_
    refine pz_lload_n hC dX10_laysWholes_146 1 rfl ?_
    refine pz_last hC dX10_laysWholes_147 hf (fun f2 hf => ?_)
    refine pz_lload_n hC dX10_laysWholes_148 1 rfl ?_
    refine pz_ldc2 hC dX10_laysWholes_149 ck_X10_89 ?_
    refine pz_lmul hC dX10_laysWholes_152 ?_
    refine pz_ldc2 hC dX10_laysWholes_153 ck_X10_89 ?_
    refine pz_aload_n hC dX10_laysWholes_156 0 rfl ?_
    refine pz_getR hC dX10_laysWholes_157 fa_X10_7 hf (fun v3 hf => ?_)
    refine pz_bipush (v := (10 : Int32)) hC dX10_laysWholes_160 (by decide) ?_
    refine pz_iald hC dX10_laysWholes_162 hf (fun v4 hf => ?_)
    refine pz_i2l hC dX10_laysWholes_163 ?_
    refine pz_ladd hC dX10_laysWholes_164 ?_
    refine pz_ldiv hC dX10_laysWholes_165 hf (fun hf => ?_)
    refine pz_lstore_n hC dX10_laysWholes_166 (by decide) rfl ?_
    refine pz_iinc (v := (l5 + 1)) hC dX10_laysWholes_167 2 rfl rfl (by decide) rfl ?_
    refine pz_goto hC dX10_laysWholes_170 ?_
    refine pz_sub [2, 1, 0] rfl ?_
    exact hk132 _ _ _ _ hf
def fX10_laysWholes_132 : Nat → pz_H → Nat → Int64 → Int32 → Option pz_H
  | 0, _, _, _, _ => none
  | n + 1, f, l0, l3, l5 => fX10_laysWholes_132b (fX10_laysWholes_132 n) f l0 l3 l5
theorem tX10_laysWholes_132 {G : pz_G} {C : pz_C} {r : pz_H} (hC : pz_OK G C cX10_laysWholes 6 RX10) (hK : pz_K C none 5 110 0 0) : ∀ (N : Nat) (f : pz_H) (l0 : Nat) (l3 : Int64) (l5 : Int32), fX10_laysWholes_132 N f l0 l3 l5 = some r → pz_W G C 6 132 [(0, .ref l0), (3, .long l3), (5, .int l5)] [] f 0 0 (pz_Q G C none r 0 0) := by
  intro N
  induction N with
  | zero => intro f l0 l3 l5 hf; cases hf
  | succ N ih => intro f l0 l3 l5 hf; exact tX10_laysWholes_132b hC hK (fun f l0 l3 l5 hf => ih f l0 l3 l5 hf) hf
def fX10_laysWholes_21b (k21 : pz_H → Nat → Int64 → Int32 → Option pz_H) (f : pz_H) (l0 : Nat) (l1 : Int64) (l3 : Int32) : Option pz_H :=
  if (1800 : Int32) ≤ l3 then fX10_laysWholes_132 pz_F f l0 ((1000000000 : Int64)) ((0 : Int32)) else
  (pz_gR f l0 9 1).bind fun v1 =>
  (pz_aI f v1 0 ((1 : Int32))).bind fun v2 =>
  if v2 = ((-1) : Int32) then fX10_laysWholes_52 k21 f l0 l1 l3 else
  (pz_gR f l0 9 1).bind fun v3 =>
  (pz_aI f v3 0 ((1 : Int32))).bind fun v4 =>
  if l3 < v4 then fX10_laysWholes_52 k21 f l0 l1 l3 else
  fX10_laysWholes_53 k21 f l0 l1 l3 ((1 : Int32))
theorem tX10_laysWholes_21b {G : pz_G} {C : pz_C} {f : pz_H} {k21 : pz_H → Nat → Int64 → Int32 → Option pz_H} {l0 : Nat} {l1 : Int64} {l3 : Int32} {r : pz_H} (hC : pz_OK G C cX10_laysWholes 6 RX10) (hK : pz_K C none 5 110 0 0) (hk21 : ∀ (g : pz_H) (a0 : Nat) (a1 : Int64) (a3 : Int32), k21 g a0 a1 a3 = some r → pz_W G C 6 21 [(0, .ref a0), (1, .long a1), (3, .int a3)] [] g 0 0 (pz_Q G C none r 0 0)) (hf : fX10_laysWholes_21b k21 f l0 l1 l3 = some r) : pz_W G C 6 21 [(0, .ref l0), (1, .long l1), (3, .int l3)] [] f 0 0 (pz_Q G C none r 0 0) := by
  unfold fX10_laysWholes_21b at hf
  refine pz_iload_n hC dX10_laysWholes_21 2 rfl ?_
  refine pz_sipush (v := (1800 : Int32)) hC dX10_laysWholes_22 (by decide) ?_
  refine pz_icmp_ge hC dX10_laysWholes_25 hf (fun _ hf => ?_) (fun _ hf => ?_)
  · refine pz_ldc2 hC dX10_laysWholes_125 ck_X10_87 ?_
    refine pz_lstore_n hC dX10_laysWholes_128 (by decide) rfl ?_
    refine pz_iconst (v := (0 : Int32)) hC dX10_laysWholes_129 (by decide) ?_
    refine pz_istore hC dX10_laysWholes_130 (by decide) rfl ?_
    refine pz_sub [2, 1, 0] rfl ?_
    exact tX10_laysWholes_132 hC hK _ _ _ _ _ hf
  · refine pz_aload_n hC dX10_laysWholes_28 0 rfl ?_
    refine pz_getR hC dX10_laysWholes_29 fa_X10_7 hf (fun v1 hf => ?_)
    refine pz_iconst (v := (1 : Int32)) hC dX10_laysWholes_32 (by decide) ?_
    refine pz_iald hC dX10_laysWholes_33 hf (fun v2 hf => ?_)
    refine pz_iconst (v := ((-1) : Int32)) hC dX10_laysWholes_34 (by decide) ?_
    refine pz_icmp_eq hC dX10_laysWholes_35 hf (fun _ hf => ?_) (fun _ hf => ?_)
    · exact tX10_laysWholes_52 hC hK hk21 hf
    · refine pz_iload_n hC dX10_laysWholes_38 2 rfl ?_
      refine pz_aload_n hC dX10_laysWholes_39 0 rfl ?_
      refine pz_getR hC dX10_laysWholes_40 fa_X10_7 hf (fun v3 hf => ?_)
      refine pz_iconst (v := (1 : Int32)) hC dX10_laysWholes_43 (by decide) ?_
      refine pz_iald hC dX10_laysWholes_44 hf (fun v4 hf => ?_)
      refine pz_icmp_lt hC dX10_laysWholes_45 hf (fun _ hf => ?_) (fun _ hf => ?_)
      · exact tX10_laysWholes_52 hC hK hk21 hf
      · refine pz_iconst (v := (1 : Int32)) hC dX10_laysWholes_48 (by decide) ?_
        refine pz_goto hC dX10_laysWholes_49 ?_
        exact tX10_laysWholes_53 hC hK hk21 hf
def fX10_laysWholes_21 : Nat → pz_H → Nat → Int64 → Int32 → Option pz_H
  | 0, _, _, _, _ => none
  | n + 1, f, l0, l1, l3 => fX10_laysWholes_21b (fX10_laysWholes_21 n) f l0 l1 l3
theorem tX10_laysWholes_21 {G : pz_G} {C : pz_C} {r : pz_H} (hC : pz_OK G C cX10_laysWholes 6 RX10) (hK : pz_K C none 5 110 0 0) : ∀ (N : Nat) (f : pz_H) (l0 : Nat) (l1 : Int64) (l3 : Int32), fX10_laysWholes_21 N f l0 l1 l3 = some r → pz_W G C 6 21 [(0, .ref l0), (1, .long l1), (3, .int l3)] [] f 0 0 (pz_Q G C none r 0 0) := by
  intro N
  induction N with
  | zero => intro f l0 l1 l3 hf; cases hf
  | succ N ih => intro f l0 l1 l3 hf; exact tX10_laysWholes_21b hC hK (fun f l0 l1 l3 hf => ih f l0 l1 l3 hf) hf
def fnX10_laysWholes (f : pz_H) (a0 : Nat) : Option pz_H :=
  (pz_is f a0 9).bind fun _ =>
  (pz_gI f a0 9 6).bind fun v1 =>
  if v1 = 0 then (pz_sV f a0 9 6 (.int (1 : Int32))).bind fun f2 =>
  (fnX10_firstPaid f2 a0).bind fun x3 =>
  fX10_laysWholes_21 pz_F f2 a0 x3.toInt64 ((0 : Int32)) else
  some f
theorem mX10_laysWholes {l : Launch} {G : pz_G} {f : pz_H} {a0 : Nat} {r : pz_H} (hf : fnX10_laysWholes f a0 = some r) : pz_Met l G yX10_laysWholes cX10_laysWholes 6 none 5 110 0 0 [.ref a0] f none r ∧ pz_is f a0 9 = some () := by
  unfold fnX10_laysWholes at hf
  obtain ⟨_, h0, hf⟩ := pz_bd hf
  refine ⟨pz_enter (by decide +kernel) (Nat.le_of_ble_eq_true rfl) (fun C hl hC hK hnm => ?_), h0⟩
  subst hl
  refine pz_sub (lv' := [(0, .ref a0)]) [0] rfl ?_
  refine pz_aload_n hC dX10_laysWholes_0 0 rfl ?_
  refine pz_getI hC dX10_laysWholes_1 fa_X10_80 hf (fun v1 hf => ?_)
  refine pz_if_eq hC dX10_laysWholes_4 hf (fun _ hf => ?_) (fun _ hf => ?_)
  · refine pz_aload_n hC dX10_laysWholes_8 0 rfl ?_
    refine pz_iconst (v := (1 : Int32)) hC dX10_laysWholes_9 (by decide) ?_
    refine pz_putV hC dX10_laysWholes_10 fp_X10_80 (by decide) (by decide) hf (fun f2 hf => ?_)
    refine pz_aload_n hC dX10_laysWholes_13 0 rfl ?_
    refine pz_Vi (As := []) hC hK dX10_laysWholes_14 py_X10_firstPaid pv_X10_firstPaid lk_X10_84 hf (fun _ h => mX10_firstPaid h) rfl rfl (Nat.le_of_ble_eq_true rfl) ⟨by decide, by decide⟩ ⟨by decide, by decide⟩ (fun x3 hf => ?_)
    refine pz_i2l hC dX10_laysWholes_17 ?_
    refine pz_lstore_n hC dX10_laysWholes_18 (by decide) rfl ?_
    refine pz_iconst (v := (0 : Int32)) hC dX10_laysWholes_19 (by decide) ?_
    refine pz_istore_n hC dX10_laysWholes_20 (by decide) rfl ?_
    refine pz_sub [2, 1, 0] rfl ?_
    exact tX10_laysWholes_21 hC hK _ _ _ _ _ hf
  · exact pz_vret hC hK dX10_laysWholes_7 hf
def fX10_wedIn_28 (f : pz_H) (s0 : Int32) : Option Int32 :=
  some s0
theorem tX10_wedIn_28 {G : pz_G} {C : pz_C} {f : pz_H} {s0 : Int32} {r : Int32} (hC : pz_OK G C cX10_wedIn 2 RX10) (hK : pz_K C (some .int) 2 48 0 0) (hf : fX10_wedIn_28 f s0 = some r) : pz_W G C 2 28 [] [.int s0] f 0 0 (pz_Q G C (some (.int r)) f 0 0) := by
  unfold fX10_wedIn_28 at hf
  exact pz_iret hC hK dX10_wedIn_28 hf
def fnX10_wedIn (f : pz_H) (a0 : Nat) (p1 : Int32) : Option Int32 :=
  (pz_is f a0 9).bind fun _ =>
  (fnX10_isParted f a0 p1).bind fun x1 =>
  if x1 = 0 then fX10_wedIn_28 f ((0 : Int32)) else
  (fnX10_its f a0 p1 ((1 : Int32))).bind fun x2 =>
  (fnX10_its f a0 p1 ((2 : Int32))).bind fun x3 =>
  (fnX10_serviceIn f a0 x2 x3).bind fun x4 =>
  fX10_wedIn_28 f x4
theorem mX10_wedIn {l : Launch} {G : pz_G} {f : pz_H} {a0 : Nat} {p1 : Int32} {r : Int32} (hf : fnX10_wedIn f a0 p1 = some r) : pz_Met l G yX10_wedIn cX10_wedIn 2 (some .int) 2 48 0 0 [.ref a0, .int p1] f (some (.int r)) f ∧ pz_is f a0 9 = some () := by
  unfold fnX10_wedIn at hf
  obtain ⟨_, h0, hf⟩ := pz_bd hf
  refine ⟨pz_enter (by decide +kernel) (Nat.le_of_ble_eq_true rfl) (fun C hl hC hK hnm => ?_), h0⟩
  subst hl
  refine pz_sub (lv' := [(0, .ref a0), (1, .int p1)]) [0, 1] rfl ?_
  refine pz_aload_n hC dX10_wedIn_0 0 rfl ?_
  refine pz_iload_n hC dX10_wedIn_1 1 rfl ?_
  refine pz_Vi (As := [.int p1]) hC hK dX10_wedIn_2 py_X10_isParted pv_X10_isParted lk_X10_91 hf (fun _ h => mX10_isParted h) rfl rfl (Nat.le_of_ble_eq_true rfl) ⟨by decide, by decide⟩ ⟨by decide, by decide⟩ (fun x1 hf => ?_)
  refine pz_if_eq hC dX10_wedIn_5 hf (fun _ hf => ?_) (fun _ hf => ?_)
  · refine pz_iconst (v := (0 : Int32)) hC dX10_wedIn_27 (by decide) ?_
    refine pz_sub [] rfl ?_
    exact tX10_wedIn_28 hC hK hf
  · refine pz_aload_n hC dX10_wedIn_8 0 rfl ?_
    refine pz_aload_n hC dX10_wedIn_9 0 rfl ?_
    refine pz_iload_n hC dX10_wedIn_10 1 rfl ?_
    refine pz_iconst (v := (1 : Int32)) hC dX10_wedIn_11 (by decide) ?_
    refine pz_Vi (As := [.int p1, .int (1 : Int32)]) hC hK dX10_wedIn_12 py_X10_its pv_X10_its lk_X10_56 hf (fun _ h => mX10_its h) rfl rfl (Nat.le_of_ble_eq_true rfl) ⟨by decide, by decide⟩ ⟨by decide, by decide⟩ (fun x2 hf => ?_)
    refine pz_aload_n hC dX10_wedIn_15 0 rfl ?_
    refine pz_iload_n hC dX10_wedIn_16 1 rfl ?_
    refine pz_iconst (v := (2 : Int32)) hC dX10_wedIn_17 (by decide) ?_
    refine pz_Vi (As := [.int p1, .int (2 : Int32)]) hC hK dX10_wedIn_18 py_X10_its pv_X10_its lk_X10_56 hf (fun _ h => mX10_its h) rfl rfl (Nat.le_of_ble_eq_true rfl) ⟨by decide, by decide⟩ ⟨by decide, by decide⟩ (fun x3 hf => ?_)
    refine pz_Vi (As := [.int x2, .int x3]) hC hK dX10_wedIn_21 py_X10_serviceIn pv_X10_serviceIn lk_X10_63 hf (fun _ h => mX10_serviceIn h) rfl rfl (Nat.le_of_ble_eq_true rfl) ⟨by decide, by decide⟩ ⟨by decide, by decide⟩ (fun x4 hf => ?_)
    refine pz_goto hC dX10_wedIn_24 ?_
    refine pz_sub [] rfl ?_
    exact tX10_wedIn_28 hC hK hf
def fX10_shareIn_45 (f : pz_H) (s0 : Int64) : Option (Int64 × pz_H) :=
  some (s0, f)
theorem tX10_shareIn_45 {G : pz_G} {C : pz_C} {f : pz_H} {s0 : Int64} {r : (Int64 × pz_H)} (hC : pz_OK G C cX10_shareIn 4 RX10) (hK : pz_K C (some .long) 6 135 0 0) (hf : fX10_shareIn_45 f s0 = some r) : pz_W G C 4 45 [] [.long s0] f 0 0 (pz_Q G C (some (.long r.1)) r.2 0 0) := by
  unfold fX10_shareIn_45 at hf
  exact pz_lretw hC hK dX10_shareIn_45 hf
def fnX10_shareIn (f : pz_H) (a0 : Nat) (p1 : Int32) (p2 : Int32) : Option (Int64 × pz_H) :=
  (pz_is f a0 9).bind fun _ =>
  (fnX10_laysWholes f a0).bind fun x1 =>
  (fnX10_served x1 a0).bind fun x2 =>
  if x2 = 0 then fX10_shareIn_45 x1 ((0 : Int64)) else
  (pz_gR x1 a0 9 5).bind fun v3 =>
  (pz_aL x1 v3 1 p2).bind fun v4 =>
  (fnX10_its x1 a0 p1 ((3 : Int32))).bind fun x5 =>
  (fnX10_wedIn x1 a0 p1).bind fun x6 =>
  if ((1000 : Int64) * x2.toInt64) = 0 then none else
  fX10_shareIn_45 x1 ((((v4 * x5.toInt64) * x6.toInt64) / ((1000 : Int64) * x2.toInt64)))
theorem mX10_shareIn {l : Launch} {G : pz_G} {f : pz_H} {a0 : Nat} {p1 : Int32} {p2 : Int32} {r : (Int64 × pz_H)} (hf : fnX10_shareIn f a0 p1 p2 = some r) : pz_Met l G yX10_shareIn cX10_shareIn 4 (some .long) 6 135 0 0 [.ref a0, .int p1, .int p2] f (some (.long r.1)) r.2 ∧ pz_is f a0 9 = some () := by
  unfold fnX10_shareIn at hf
  obtain ⟨_, h0, hf⟩ := pz_bd hf
  refine ⟨pz_enter (by decide +kernel) (Nat.le_of_ble_eq_true rfl) (fun C hl hC hK hnm => ?_), h0⟩
  subst hl
  refine pz_sub (lv' := [(0, .ref a0), (1, .int p1), (2, .int p2)]) [0, 1, 2] rfl ?_
  refine pz_aload_n hC dX10_shareIn_0 0 rfl ?_
  refine pz_Vv (As := []) hC hK dX10_shareIn_1 py_X10_laysWholes pv_X10_laysWholes lk_X10_95 hf (fun _ h => mX10_laysWholes h) rfl rfl (Nat.le_of_ble_eq_true rfl) ⟨by decide, by decide⟩ ⟨by decide, by decide⟩ (fun x1 hf => ?_)
  refine pz_aload_n hC dX10_shareIn_4 0 rfl ?_
  refine pz_Vi (As := []) hC hK dX10_shareIn_5 py_X10_served pv_X10_served lk_X10_70 hf (fun _ h => mX10_served h) rfl rfl (Nat.le_of_ble_eq_true rfl) ⟨by decide, by decide⟩ ⟨by decide, by decide⟩ (fun x2 hf => ?_)
  refine pz_istore_n hC dX10_shareIn_8 (by decide) rfl ?_
  refine pz_iload_n hC dX10_shareIn_9 0 rfl ?_
  refine pz_if_ne hC dX10_shareIn_10 hf (fun _ hf => ?_) (fun _ hf => ?_)
  · refine pz_aload_n hC dX10_shareIn_17 1 rfl ?_
    refine pz_getR hC dX10_shareIn_18 fa_X10_19 hf (fun v3 hf => ?_)
    refine pz_iload_n hC dX10_shareIn_21 3 rfl ?_
    refine pz_lald hC dX10_shareIn_22 hf (fun v4 hf => ?_)
    refine pz_aload_n hC dX10_shareIn_23 1 rfl ?_
    refine pz_iload_n hC dX10_shareIn_24 2 rfl ?_
    refine pz_iconst (v := (3 : Int32)) hC dX10_shareIn_25 (by decide) ?_
    refine pz_Vi (As := [.int p1, .int (3 : Int32)]) hC hK dX10_shareIn_26 py_X10_its pv_X10_its lk_X10_56 hf (fun _ h => mX10_its h) rfl rfl (Nat.le_of_ble_eq_true rfl) ⟨by decide, by decide⟩ ⟨by decide, by decide⟩ (fun x5 hf => ?_)
    refine pz_i2l hC dX10_shareIn_29 ?_
    refine pz_lmul hC dX10_shareIn_30 ?_
    refine pz_aload_n hC dX10_shareIn_31 1 rfl ?_
    refine pz_iload_n hC dX10_shareIn_32 2 rfl ?_
    refine pz_Vi (As := [.int p1]) hC hK dX10_shareIn_33 py_X10_wedIn pv_X10_wedIn lk_X10_98 hf (fun _ h => mX10_wedIn h) rfl rfl (Nat.le_of_ble_eq_true rfl) ⟨by decide, by decide⟩ ⟨by decide, by decide⟩ (fun x6 hf => ?_)
    refine pz_i2l hC dX10_shareIn_36 ?_
    refine pz_lmul hC dX10_shareIn_37 ?_
    refine pz_ldc2 hC dX10_shareIn_38 ck_X10_78 ?_
    refine pz_iload_n hC dX10_shareIn_41 0 rfl ?_
    refine pz_i2l hC dX10_shareIn_42 ?_
    refine pz_lmul hC dX10_shareIn_43 ?_
    refine pz_ldiv hC dX10_shareIn_44 hf (fun hf => ?_)
    refine pz_sub [] rfl ?_
    exact tX10_shareIn_45 hC hK hf
  · refine pz_lconst (v := 0) hC dX10_shareIn_13 (by decide) ?_
    refine pz_goto hC dX10_shareIn_14 ?_
    refine pz_sub [] rfl ?_
    exact tX10_shareIn_45 hC hK hf
def fX10_begin_46 (f : pz_H) (s0 : Int32) : Option Int32 :=
  some s0
theorem tX10_begin_46 {G : pz_G} {C : pz_C} {f : pz_H} {s0 : Int32} {r : Int32} (hC : pz_OK G C cX10_begin 2 RX10) (hK : pz_K C (some .int) 1 22 0 0) (hf : fX10_begin_46 f s0 = some r) : pz_W G C 2 46 [] [.int s0] f 0 0 (pz_Q G C (some (.int r)) f 0 0) := by
  unfold fX10_begin_46 at hf
  exact pz_iret hC hK dX10_begin_46 hf
def fnX10_begin (f : pz_H) (a0 : Nat) (p1 : Int32) : Option Int32 :=
  (pz_is f a0 9).bind fun _ =>
  (pz_gR f a0 9 1).bind fun v1 =>
  (pz_aI f v1 0 ((1 : Int32))).bind fun v2 =>
  if v2 = ((-1) : Int32) then fX10_begin_46 f (((-1) : Int32)) else
  (pz_gR f a0 9 1).bind fun v3 =>
  (pz_aI f v3 0 ((1 : Int32))).bind fun v4 =>
  (fnX10_its f a0 p1 ((6 : Int32))).bind fun x5 =>
  if v4 ≤ x5 then (fnX10_its f a0 p1 ((6 : Int32))).bind fun x6 =>
  fX10_begin_46 f x6 else
  (pz_gR f a0 9 1).bind fun v7 =>
  (pz_aI f v7 0 ((1 : Int32))).bind fun v8 =>
  fX10_begin_46 f v8
theorem mX10_begin {l : Launch} {G : pz_G} {f : pz_H} {a0 : Nat} {p1 : Int32} {r : Int32} (hf : fnX10_begin f a0 p1 = some r) : pz_Met l G yX10_begin cX10_begin 2 (some .int) 1 22 0 0 [.ref a0, .int p1] f (some (.int r)) f ∧ pz_is f a0 9 = some () := by
  unfold fnX10_begin at hf
  obtain ⟨_, h0, hf⟩ := pz_bd hf
  refine ⟨pz_enter (by decide +kernel) (Nat.le_of_ble_eq_true rfl) (fun C hl hC hK hnm => ?_), h0⟩
  subst hl
  refine pz_sub (lv' := [(0, .ref a0), (1, .int p1)]) [0, 1] rfl ?_
  refine pz_aload_n hC dX10_begin_0 0 rfl ?_
  refine pz_getR hC dX10_begin_1 fa_X10_7 hf (fun v1 hf => ?_)
  refine pz_iconst (v := (1 : Int32)) hC dX10_begin_4 (by decide) ?_
  refine pz_iald hC dX10_begin_5 hf (fun v2 hf => ?_)
  refine pz_iconst (v := ((-1) : Int32)) hC dX10_begin_6 (by decide) ?_
  refine pz_icmp_ne hC dX10_begin_7 hf (fun _ hf => ?_) (fun _ hf => ?_)
  · refine pz_aload_n hC dX10_begin_14 0 rfl ?_
    refine pz_getR hC dX10_begin_15 fa_X10_7 hf (fun v3 hf => ?_)
    refine pz_iconst (v := (1 : Int32)) hC dX10_begin_18 (by decide) ?_
    refine pz_iald hC dX10_begin_19 hf (fun v4 hf => ?_)
    refine pz_aload_n hC dX10_begin_20 0 rfl ?_
    refine pz_iload_n hC dX10_begin_21 1 rfl ?_
    refine pz_bipush (v := (6 : Int32)) hC dX10_begin_22 (by decide) ?_
    refine pz_Vi (As := [.int p1, .int (6 : Int32)]) hC hK dX10_begin_24 py_X10_its pv_X10_its lk_X10_56 hf (fun _ h => mX10_its h) rfl rfl (Nat.le_of_ble_eq_true rfl) ⟨by decide, by decide⟩ ⟨by decide, by decide⟩ (fun x5 hf => ?_)
    refine pz_icmp_le hC dX10_begin_27 hf (fun _ hf => ?_) (fun _ hf => ?_)
    · refine pz_aload_n hC dX10_begin_39 0 rfl ?_
      refine pz_iload_n hC dX10_begin_40 1 rfl ?_
      refine pz_bipush (v := (6 : Int32)) hC dX10_begin_41 (by decide) ?_
      refine pz_Vi (As := [.int p1, .int (6 : Int32)]) hC hK dX10_begin_43 py_X10_its pv_X10_its lk_X10_56 hf (fun _ h => mX10_its h) rfl rfl (Nat.le_of_ble_eq_true rfl) ⟨by decide, by decide⟩ ⟨by decide, by decide⟩ (fun x6 hf => ?_)
      refine pz_sub [] rfl ?_
      exact tX10_begin_46 hC hK hf
    · refine pz_aload_n hC dX10_begin_30 0 rfl ?_
      refine pz_getR hC dX10_begin_31 fa_X10_7 hf (fun v7 hf => ?_)
      refine pz_iconst (v := (1 : Int32)) hC dX10_begin_34 (by decide) ?_
      refine pz_iald hC dX10_begin_35 hf (fun v8 hf => ?_)
      refine pz_goto hC dX10_begin_36 ?_
      refine pz_sub [] rfl ?_
      exact tX10_begin_46 hC hK hf
  · refine pz_iconst (v := ((-1) : Int32)) hC dX10_begin_10 (by decide) ?_
    refine pz_goto hC dX10_begin_11 ?_
    refine pz_sub [] rfl ?_
    exact tX10_begin_46 hC hK hf
def fX10_livesAt_108 (k25 : Nat → Int32 → Int32 → Int32 → Int32 → Int32 → Int32 → Option Int32) (f : pz_H) (l0 : Nat) (l1 : Int32) (l2 : Int32) (l3 : Int32) (l4 : Int32) (l5 : Int32) (l6 : Int32) : Option Int32 :=
  k25 l0 l1 l2 l3 l4 l5 ((l6 + 1))
theorem tX10_livesAt_108 {G : pz_G} {C : pz_C} {f : pz_H} {k25 : Nat → Int32 → Int32 → Int32 → Int32 → Int32 → Int32 → Option Int32} {l0 : Nat} {l1 : Int32} {l2 : Int32} {l3 : Int32} {l4 : Int32} {l5 : Int32} {l6 : Int32} {r : Int32} (hC : pz_OK G C cX10_livesAt 9 RX10) (hK : pz_K C (some .int) 0 0 0 0) (hk25 : ∀ (a0 : Nat) (a1 : Int32) (a2 : Int32) (a3 : Int32) (a4 : Int32) (a5 : Int32) (a6 : Int32), k25 a0 a1 a2 a3 a4 a5 a6 = some r → pz_W G C 9 25 [(0, .ref a0), (1, .int a1), (2, .int a2), (3, .int a3), (4, .int a4), (5, .int a5), (6, .int a6)] [] f 0 0 (pz_Q G C (some (.int r)) f 0 0)) (hf : fX10_livesAt_108 k25 f l0 l1 l2 l3 l4 l5 l6 = some r) : pz_W G C 9 108 [(0, .ref l0), (1, .int l1), (2, .int l2), (3, .int l3), (4, .int l4), (5, .int l5), (6, .int l6)] [] f 0 0 (pz_Q G C (some (.int r)) f 0 0) := by
  unfold fX10_livesAt_108 at hf
  refine pz_iinc (v := (l6 + 1)) hC dX10_livesAt_108 6 rfl rfl (by decide) rfl ?_
  refine pz_goto hC dX10_livesAt_111 ?_
  refine pz_sub [1, 2, 3, 4, 5, 6, 0] rfl ?_
  exact hk25 _ _ _ _ _ _ _ hf
def fX10_livesAt_87 (k25 : Nat → Int32 → Int32 → Int32 → Int32 → Int32 → Int32 → Option Int32) (f : pz_H) (l0 : Nat) (l1 : Int32) (l2 : Int32) (l3 : Int32) (l4 : Int32) (l5 : Int32) (l6 : Int32) (l7 : Int32) (l8 : Int32) : Option Int32 :=
  if l7 ≤ l1 then fX10_livesAt_108 k25 f l0 l1 l2 l3 l4 l5 l6 else
  if l4 ≤ l7 then fX10_livesAt_108 k25 f l0 l1 l2 l3 l4 l5 l6 else
  fX10_livesAt_108 k25 f l0 l1 l2 l3 l7 l8 l6
theorem tX10_livesAt_87 {G : pz_G} {C : pz_C} {f : pz_H} {k25 : Nat → Int32 → Int32 → Int32 → Int32 → Int32 → Int32 → Option Int32} {l0 : Nat} {l1 : Int32} {l2 : Int32} {l3 : Int32} {l4 : Int32} {l5 : Int32} {l6 : Int32} {l7 : Int32} {l8 : Int32} {r : Int32} (hC : pz_OK G C cX10_livesAt 9 RX10) (hK : pz_K C (some .int) 0 0 0 0) (hk25 : ∀ (a0 : Nat) (a1 : Int32) (a2 : Int32) (a3 : Int32) (a4 : Int32) (a5 : Int32) (a6 : Int32), k25 a0 a1 a2 a3 a4 a5 a6 = some r → pz_W G C 9 25 [(0, .ref a0), (1, .int a1), (2, .int a2), (3, .int a3), (4, .int a4), (5, .int a5), (6, .int a6)] [] f 0 0 (pz_Q G C (some (.int r)) f 0 0)) (hf : fX10_livesAt_87 k25 f l0 l1 l2 l3 l4 l5 l6 l7 l8 = some r) : pz_W G C 9 87 [(0, .ref l0), (1, .int l1), (2, .int l2), (3, .int l3), (4, .int l4), (5, .int l5), (6, .int l6), (7, .int l7), (8, .int l8)] [] f 0 0 (pz_Q G C (some (.int r)) f 0 0) := by
  unfold fX10_livesAt_87 at hf
  refine pz_iload hC dX10_livesAt_87 7 rfl ?_
  refine pz_iload_n hC dX10_livesAt_89 1 rfl ?_
  refine pz_icmp_le hC dX10_livesAt_90 hf (fun _ hf => ?_) (fun _ hf => ?_)
  · refine pz_sub [0, 1, 2, 3, 4, 5, 6] rfl ?_
    exact tX10_livesAt_108 hC hK hk25 hf
  · refine pz_iload hC dX10_livesAt_93 7 rfl ?_
    refine pz_iload hC dX10_livesAt_95 4 rfl ?_
    refine pz_icmp_ge hC dX10_livesAt_97 hf (fun _ hf => ?_) (fun _ hf => ?_)
    · refine pz_sub [0, 1, 2, 3, 4, 5, 6] rfl ?_
      exact tX10_livesAt_108 hC hK hk25 hf
    · refine pz_iload hC dX10_livesAt_100 7 rfl ?_
      refine pz_istore hC dX10_livesAt_102 (by decide) rfl ?_
      refine pz_iload hC dX10_livesAt_104 8 rfl ?_
      refine pz_istore hC dX10_livesAt_106 (by decide) rfl ?_
      refine pz_sub [2, 3, 4, 5, 1, 0, 6] rfl ?_
      exact tX10_livesAt_108 hC hK hk25 hf
def fX10_livesAt_25b (k25 : Nat → Int32 → Int32 → Int32 → Int32 → Int32 → Int32 → Option Int32) (f : pz_H) (l0 : Nat) (l1 : Int32) (l2 : Int32) (l3 : Int32) (l4 : Int32) (l5 : Int32) (l6 : Int32) : Option Int32 :=
  (pz_gR f l0 9 1).bind fun v1 =>
  (pz_aI f v1 0 ((5 : Int32))).bind fun v2 =>
  if v2 ≤ l6 then if ((l4 - l2)).toInt64 = 0 then none else
  some (((((l3.toInt64 * ((l4 - l1)).toInt64) + (l5.toInt64 * ((l1 - l2)).toInt64)) / ((l4 - l2)).toInt64)).toInt32) else
  (pz_gR f l0 9 1).bind fun v3 =>
  (pz_aI f v3 0 (((67 : Int32) + ((2 : Int32) * l6)))).bind fun v4 =>
  (pz_gR f l0 9 1).bind fun v5 =>
  (pz_aI f v5 0 ((((67 : Int32) + ((2 : Int32) * l6)) + (1 : Int32)))).bind fun v6 =>
  if l1 < ((12 : Int32) * v4) then fX10_livesAt_87 k25 f l0 l1 l2 l3 l4 l5 l6 (((12 : Int32) * v4)) v6 else
  if ((12 : Int32) * v4) < l2 then fX10_livesAt_87 k25 f l0 l1 l2 l3 l4 l5 l6 (((12 : Int32) * v4)) v6 else
  fX10_livesAt_87 k25 f l0 l1 (((12 : Int32) * v4)) v6 l4 l5 l6 (((12 : Int32) * v4)) v6
theorem tX10_livesAt_25b {G : pz_G} {C : pz_C} {f : pz_H} {k25 : Nat → Int32 → Int32 → Int32 → Int32 → Int32 → Int32 → Option Int32} {l0 : Nat} {l1 : Int32} {l2 : Int32} {l3 : Int32} {l4 : Int32} {l5 : Int32} {l6 : Int32} {r : Int32} (hC : pz_OK G C cX10_livesAt 9 RX10) (hK : pz_K C (some .int) 0 0 0 0) (hk25 : ∀ (a0 : Nat) (a1 : Int32) (a2 : Int32) (a3 : Int32) (a4 : Int32) (a5 : Int32) (a6 : Int32), k25 a0 a1 a2 a3 a4 a5 a6 = some r → pz_W G C 9 25 [(0, .ref a0), (1, .int a1), (2, .int a2), (3, .int a3), (4, .int a4), (5, .int a5), (6, .int a6)] [] f 0 0 (pz_Q G C (some (.int r)) f 0 0)) (hf : fX10_livesAt_25b k25 f l0 l1 l2 l3 l4 l5 l6 = some r) : pz_W G C 9 25 [(0, .ref l0), (1, .int l1), (2, .int l2), (3, .int l3), (4, .int l4), (5, .int l5), (6, .int l6)] [] f 0 0 (pz_Q G C (some (.int r)) f 0 0) := by
  unfold fX10_livesAt_25b at hf
  refine pz_iload hC dX10_livesAt_25 6 rfl ?_
  refine pz_aload_n hC dX10_livesAt_27 0 rfl ?_
  refine pz_getR hC dX10_livesAt_28 fa_X10_7 hf (fun v1 hf => ?_)
  refine pz_iconst (v := (5 : Int32)) hC dX10_livesAt_31 (by decide) ?_
  refine pz_iald hC dX10_livesAt_32 hf (fun v2 hf => ?_)
  refine pz_icmp_ge hC dX10_livesAt_33 hf (fun _ hf => ?_) (fun _ hf => ?_)
  · refine pz_iload_n hC dX10_livesAt_114 3 rfl ?_
    refine pz_i2l hC dX10_livesAt_115 ?_
    refine pz_iload hC dX10_livesAt_116 4 rfl ?_
    refine pz_iload_n hC dX10_livesAt_118 1 rfl ?_
    refine pz_isub hC dX10_livesAt_119 ?_
    refine pz_i2l hC dX10_livesAt_120 ?_
    refine pz_lmul hC dX10_livesAt_121 ?_
    refine pz_iload hC dX10_livesAt_122 5 rfl ?_
    refine pz_i2l hC dX10_livesAt_124 ?_
    refine pz_iload_n hC dX10_livesAt_125 1 rfl ?_
    refine pz_iload_n hC dX10_livesAt_126 2 rfl ?_
    refine pz_isub hC dX10_livesAt_127 ?_
    refine pz_i2l hC dX10_livesAt_128 ?_
    refine pz_lmul hC dX10_livesAt_129 ?_
    refine pz_ladd hC dX10_livesAt_130 ?_
    refine pz_iload hC dX10_livesAt_131 4 rfl ?_
    refine pz_iload_n hC dX10_livesAt_133 2 rfl ?_
    refine pz_isub hC dX10_livesAt_134 ?_
    refine pz_i2l hC dX10_livesAt_135 ?_
    refine pz_ldiv hC dX10_livesAt_136 hf (fun hf => ?_)
    refine pz_l2i hC dX10_livesAt_137 ?_
    exact pz_iret hC hK dX10_livesAt_138 hf
  · refine pz_bipush (v := (12 : Int32)) hC dX10_livesAt_36 (by decide) ?_
    refine pz_aload_n hC dX10_livesAt_38 0 rfl ?_
    refine pz_getR hC dX10_livesAt_39 fa_X10_7 hf (fun v3 hf => ?_)
    refine pz_bipush (v := (67 : Int32)) hC dX10_livesAt_42 (by decide) ?_
    refine pz_iconst (v := (2 : Int32)) hC dX10_livesAt_44 (by decide) ?_
    refine pz_iload hC dX10_livesAt_45 6 rfl ?_
    refine pz_imul hC dX10_livesAt_47 ?_
    refine pz_iadd hC dX10_livesAt_48 ?_
    refine pz_iald hC dX10_livesAt_49 hf (fun v4 hf => ?_)
    refine pz_imul hC dX10_livesAt_50 ?_
    refine pz_istore hC dX10_livesAt_51 (by decide) rfl ?_
    refine pz_aload_n hC dX10_livesAt_53 1 rfl ?_
    refine pz_getR hC dX10_livesAt_54 fa_X10_7 hf (fun v5 hf => ?_)
    refine pz_bipush (v := (67 : Int32)) hC dX10_livesAt_57 (by decide) ?_
    refine pz_iconst (v := (2 : Int32)) hC dX10_livesAt_59 (by decide) ?_
    refine pz_iload hC dX10_livesAt_60 7 rfl ?_
    refine pz_imul hC dX10_livesAt_62 ?_
    refine pz_iadd hC dX10_livesAt_63 ?_
    refine pz_iconst (v := (1 : Int32)) hC dX10_livesAt_64 (by decide) ?_
    refine pz_iadd hC dX10_livesAt_65 ?_
    refine pz_iald hC dX10_livesAt_66 hf (fun v6 hf => ?_)
    refine pz_istore hC dX10_livesAt_67 (by decide) rfl ?_
    refine pz_iload hC dX10_livesAt_69 1 rfl ?_
    refine pz_iload_n hC dX10_livesAt_71 3 rfl ?_
    refine pz_icmp_gt hC dX10_livesAt_72 hf (fun _ hf => ?_) (fun _ hf => ?_)
    · refine pz_sub [2, 3, 4, 5, 6, 7, 8, 1, 0] rfl ?_
      exact tX10_livesAt_87 hC hK hk25 hf
    · refine pz_iload hC dX10_livesAt_75 1 rfl ?_
      refine pz_iload_n hC dX10_livesAt_77 4 rfl ?_
      refine pz_icmp_lt hC dX10_livesAt_78 hf (fun _ hf => ?_) (fun _ hf => ?_)
      · refine pz_sub [2, 3, 4, 5, 6, 7, 8, 1, 0] rfl ?_
        exact tX10_livesAt_87 hC hK hk25 hf
      · refine pz_iload hC dX10_livesAt_81 1 rfl ?_
        refine pz_istore_n hC dX10_livesAt_83 (by decide) rfl ?_
        refine pz_iload hC dX10_livesAt_84 1 rfl ?_
        refine pz_istore_n hC dX10_livesAt_86 (by decide) rfl ?_
        refine pz_sub [4, 5, 1, 0, 6, 7, 8, 3, 2] rfl ?_
        exact tX10_livesAt_87 hC hK hk25 hf
def fX10_livesAt_25 (f : pz_H) : Nat → Nat → Int32 → Int32 → Int32 → Int32 → Int32 → Int32 → Option Int32
  | 0, _, _, _, _, _, _, _ => none
  | n + 1, l0, l1, l2, l3, l4, l5, l6 => fX10_livesAt_25b (fX10_livesAt_25 f n) f l0 l1 l2 l3 l4 l5 l6
theorem tX10_livesAt_25 {G : pz_G} {C : pz_C} {f : pz_H} {r : Int32} (hC : pz_OK G C cX10_livesAt 9 RX10) (hK : pz_K C (some .int) 0 0 0 0) : ∀ (N : Nat) (l0 : Nat) (l1 : Int32) (l2 : Int32) (l3 : Int32) (l4 : Int32) (l5 : Int32) (l6 : Int32), fX10_livesAt_25 f N l0 l1 l2 l3 l4 l5 l6 = some r → pz_W G C 9 25 [(0, .ref l0), (1, .int l1), (2, .int l2), (3, .int l3), (4, .int l4), (5, .int l5), (6, .int l6)] [] f 0 0 (pz_Q G C (some (.int r)) f 0 0) := by
  intro N
  induction N with
  | zero => intro l0 l1 l2 l3 l4 l5 l6 hf; cases hf
  | succ N ih => intro l0 l1 l2 l3 l4 l5 l6 hf; exact tX10_livesAt_25b hC hK (fun l0 l1 l2 l3 l4 l5 l6 hf => ih l0 l1 l2 l3 l4 l5 l6 hf) hf
def fnX10_livesAt (f : pz_H) (a0 : Nat) (p1 : Int32) : Option Int32 :=
  (pz_is f a0 9).bind fun _ =>
  if p1 < (1440 : Int32) then fX10_livesAt_25 f pz_F a0 p1 ((0 : Int32)) ((100000 : Int32)) ((1440 : Int32)) ((0 : Int32)) ((0 : Int32)) else
  some ((0 : Int32))
theorem mX10_livesAt {l : Launch} {G : pz_G} {f : pz_H} {a0 : Nat} {p1 : Int32} {r : Int32} (hf : fnX10_livesAt f a0 p1 = some r) : pz_Met l G yX10_livesAt cX10_livesAt 9 (some .int) 0 0 0 0 [.ref a0, .int p1] f (some (.int r)) f ∧ pz_is f a0 9 = some () := by
  unfold fnX10_livesAt at hf
  obtain ⟨_, h0, hf⟩ := pz_bd hf
  refine ⟨pz_enter (by decide +kernel) (Nat.le_of_ble_eq_true rfl) (fun C hl hC hK hnm => ?_), h0⟩
  subst hl
  refine pz_sub (lv' := [(0, .ref a0), (1, .int p1)]) [0, 1] rfl ?_
  refine pz_iload_n hC dX10_livesAt_0 1 rfl ?_
  refine pz_sipush (v := (1440 : Int32)) hC dX10_livesAt_1 (by decide) ?_
  refine pz_icmp_lt hC dX10_livesAt_4 hf (fun _ hf => ?_) (fun _ hf => ?_)
  · refine pz_iconst (v := (0 : Int32)) hC dX10_livesAt_9 (by decide) ?_
    refine pz_istore_n hC dX10_livesAt_10 (by decide) rfl ?_
    refine pz_ldc hC dX10_livesAt_11 ck_X10_102 ?_
    refine pz_istore_n hC dX10_livesAt_13 (by decide) rfl ?_
    refine pz_sipush (v := (1440 : Int32)) hC dX10_livesAt_14 (by decide) ?_
    refine pz_istore hC dX10_livesAt_17 (by decide) rfl ?_
    refine pz_iconst (v := (0 : Int32)) hC dX10_livesAt_19 (by decide) ?_
    refine pz_istore hC dX10_livesAt_20 (by decide) rfl ?_
    refine pz_iconst (v := (0 : Int32)) hC dX10_livesAt_22 (by decide) ?_
    refine pz_istore hC dX10_livesAt_23 (by decide) rfl ?_
    refine pz_sub [5, 6, 4, 3, 2, 1, 0] rfl ?_
    exact tX10_livesAt_25 hC hK _ _ _ _ _ _ _ _ hf
  · refine pz_iconst (v := (0 : Int32)) hC dX10_livesAt_7 (by decide) ?_
    exact pz_iret hC hK dX10_livesAt_8 hf
def fX10_bornOf_21 (f : pz_H) (s0 : Int32) : Option Int32 :=
  some s0
theorem tX10_bornOf_21 {G : pz_G} {C : pz_C} {f : pz_H} {s0 : Int32} {r : Int32} (hC : pz_OK G C cX10_bornOf 2 RX10) (hK : pz_K C (some .int) 1 22 0 0) (hf : fX10_bornOf_21 f s0 = some r) : pz_W G C 2 21 [] [.int s0] f 0 0 (pz_Q G C (some (.int r)) f 0 0) := by
  unfold fX10_bornOf_21 at hf
  exact pz_iret hC hK dX10_bornOf_21 hf
def fnX10_bornOf (f : pz_H) (a0 : Nat) (p1 : Int32) : Option Int32 :=
  (pz_is f a0 9).bind fun _ =>
  if p1 = (10 : Int32) then (pz_gR f a0 9 1).bind fun v2 =>
  (pz_aI f v2 0 ((0 : Int32))).bind fun v3 =>
  fX10_bornOf_21 f v3 else
  (fnX10_its f a0 p1 ((0 : Int32))).bind fun x1 =>
  fX10_bornOf_21 f x1
theorem mX10_bornOf {l : Launch} {G : pz_G} {f : pz_H} {a0 : Nat} {p1 : Int32} {r : Int32} (hf : fnX10_bornOf f a0 p1 = some r) : pz_Met l G yX10_bornOf cX10_bornOf 2 (some .int) 1 22 0 0 [.ref a0, .int p1] f (some (.int r)) f ∧ pz_is f a0 9 = some () := by
  unfold fnX10_bornOf at hf
  obtain ⟨_, h0, hf⟩ := pz_bd hf
  refine ⟨pz_enter (by decide +kernel) (Nat.le_of_ble_eq_true rfl) (fun C hl hC hK hnm => ?_), h0⟩
  subst hl
  refine pz_sub (lv' := [(0, .ref a0), (1, .int p1)]) [0, 1] rfl ?_
  refine pz_iload_n hC dX10_bornOf_0 1 rfl ?_
  refine pz_bipush (v := (10 : Int32)) hC dX10_bornOf_1 (by decide) ?_
  refine pz_icmp_ne hC dX10_bornOf_3 hf (fun _ hf => ?_) (fun _ hf => ?_)
  · refine pz_aload_n hC dX10_bornOf_15 0 rfl ?_
    refine pz_iload_n hC dX10_bornOf_16 1 rfl ?_
    refine pz_iconst (v := (0 : Int32)) hC dX10_bornOf_17 (by decide) ?_
    refine pz_Vi (As := [.int p1, .int (0 : Int32)]) hC hK dX10_bornOf_18 py_X10_its pv_X10_its lk_X10_56 hf (fun _ h => mX10_its h) rfl rfl (Nat.le_of_ble_eq_true rfl) ⟨by decide, by decide⟩ ⟨by decide, by decide⟩ (fun x1 hf => ?_)
    refine pz_sub [] rfl ?_
    exact tX10_bornOf_21 hC hK hf
  · refine pz_aload_n hC dX10_bornOf_6 0 rfl ?_
    refine pz_getR hC dX10_bornOf_7 fa_X10_7 hf (fun v2 hf => ?_)
    refine pz_iconst (v := (0 : Int32)) hC dX10_bornOf_10 (by decide) ?_
    refine pz_iald hC dX10_bornOf_11 hf (fun v3 hf => ?_)
    refine pz_goto hC dX10_bornOf_12 ?_
    refine pz_sub [] rfl ?_
    exact tX10_bornOf_21 hC hK hf
def fX10_laysOdds_57 (k16 : pz_H → Nat → Nat → Int32 → Int32 → Int32 → Option pz_H) (f : pz_H) (l0 : Nat) (l1 : Nat) (l2 : Int32) (l4 : Int32) (l5 : Int32) (s0 : Int64) (s1 : Int32) (s2 : Nat) : Option pz_H :=
  (pz_tL f s2 1 s1 s0).bind fun f1 =>
  k16 f1 l0 l1 l2 l4 ((l5 + 1))
theorem tX10_laysOdds_57 {G : pz_G} {C : pz_C} {f : pz_H} {k16 : pz_H → Nat → Nat → Int32 → Int32 → Int32 → Option pz_H} {l0 : Nat} {l1 : Nat} {l2 : Int32} {l4 : Int32} {l5 : Int32} {s0 : Int64} {s1 : Int32} {s2 : Nat} {r : pz_H} (hC : pz_OK G C cX10_laysOdds 6 RX10) (hK : pz_K C none 2 43 0 0) (hk16 : ∀ (g : pz_H) (a0 : Nat) (a1 : Nat) (a2 : Int32) (a4 : Int32) (a5 : Int32), k16 g a0 a1 a2 a4 a5 = some r → pz_W G C 6 16 [(0, .ref a0), (1, .ref a1), (2, .int a2), (4, .int a4), (5, .int a5)] [] g 0 0 (pz_Q G C none r 0 0)) (hf : fX10_laysOdds_57 k16 f l0 l1 l2 l4 l5 s0 s1 s2 = some r) : pz_W G C 6 57 [(0, .ref l0), (1, .ref l1), (2, .int l2), (4, .int l4), (5, .int l5)] [.long s0, .int s1, .ref s2] f 0 0 (pz_Q G C none r 0 0) := by
  unfold fX10_laysOdds_57 at hf
  refine pz_last hC dX10_laysOdds_57 hf (fun f1 hf => ?_)
  refine pz_iinc (v := (l5 + 1)) hC dX10_laysOdds_58 4 rfl rfl (by decide) rfl ?_
  refine pz_goto hC dX10_laysOdds_61 ?_
  refine pz_sub [1, 2, 3, 4, 0] rfl ?_
  exact hk16 _ _ _ _ _ _ hf
def fX10_laysOdds_16b (k16 : pz_H → Nat → Nat → Int32 → Int32 → Int32 → Option pz_H) (f : pz_H) (l0 : Nat) (l1 : Nat) (l2 : Int32) (l4 : Int32) (l5 : Int32) : Option pz_H :=
  if (1800 : Int32) ≤ l5 then some f else
  if l4 = 0 then fX10_laysOdds_57 k16 f l0 l1 l2 l4 l5 ((0 : Int64)) l5 l1 else
  (fnX10_bornOf f l0 l2).bind fun x1 =>
  (fnX10_livesAt f l0 ((l5 - x1))).bind fun x2 =>
  if l4.toInt64 = 0 then none else
  fX10_laysOdds_57 k16 f l0 l1 l2 l4 l5 ((((1000000000 : Int64) * x2.toInt64) / l4.toInt64)) l5 l1
theorem tX10_laysOdds_16b {G : pz_G} {C : pz_C} {f : pz_H} {k16 : pz_H → Nat → Nat → Int32 → Int32 → Int32 → Option pz_H} {l0 : Nat} {l1 : Nat} {l2 : Int32} {l4 : Int32} {l5 : Int32} {r : pz_H} (hC : pz_OK G C cX10_laysOdds 6 RX10) (hK : pz_K C none 2 43 0 0) (hk16 : ∀ (g : pz_H) (a0 : Nat) (a1 : Nat) (a2 : Int32) (a4 : Int32) (a5 : Int32), k16 g a0 a1 a2 a4 a5 = some r → pz_W G C 6 16 [(0, .ref a0), (1, .ref a1), (2, .int a2), (4, .int a4), (5, .int a5)] [] g 0 0 (pz_Q G C none r 0 0)) (hf : fX10_laysOdds_16b k16 f l0 l1 l2 l4 l5 = some r) : pz_W G C 6 16 [(0, .ref l0), (1, .ref l1), (2, .int l2), (4, .int l4), (5, .int l5)] [] f 0 0 (pz_Q G C none r 0 0) := by
  unfold fX10_laysOdds_16b at hf
  refine pz_iload hC dX10_laysOdds_16 4 rfl ?_
  refine pz_sipush (v := (1800 : Int32)) hC dX10_laysOdds_18 (by decide) ?_
  refine pz_icmp_ge hC dX10_laysOdds_21 hf (fun _ hf => ?_) (fun _ hf => ?_)
  · exact pz_vret hC hK dX10_laysOdds_64 hf
  · refine pz_aload_n hC dX10_laysOdds_24 1 rfl ?_
    refine pz_iload hC dX10_laysOdds_25 4 rfl ?_
    refine pz_iload hC dX10_laysOdds_27 3 rfl ?_
    refine pz_if_ne hC dX10_laysOdds_29 hf (fun _ hf => ?_) (fun _ hf => ?_)
    · refine pz_ldc2 hC dX10_laysOdds_36 ck_X10_87 ?_
      refine pz_aload_n hC dX10_laysOdds_39 0 rfl ?_
      refine pz_iload hC dX10_laysOdds_40 4 rfl ?_
      refine pz_aload_n hC dX10_laysOdds_42 0 rfl ?_
      refine pz_iload_n hC dX10_laysOdds_43 2 rfl ?_
      refine pz_Vi (As := [.int l2]) hC hK dX10_laysOdds_44 py_X10_bornOf pv_X10_bornOf lk_X10_103 hf (fun _ h => mX10_bornOf h) rfl rfl (Nat.le_of_ble_eq_true rfl) ⟨by decide, by decide⟩ ⟨by decide, by decide⟩ (fun x1 hf => ?_)
      refine pz_isub hC dX10_laysOdds_47 ?_
      refine pz_Vi (As := [.int (l5 - x1)]) hC hK dX10_laysOdds_48 py_X10_livesAt pv_X10_livesAt lk_X10_106 hf (fun _ h => mX10_livesAt h) rfl rfl (Nat.le_of_ble_eq_true rfl) ⟨by decide, by decide⟩ ⟨by decide, by decide⟩ (fun x2 hf => ?_)
      refine pz_i2l hC dX10_laysOdds_51 ?_
      refine pz_lmul hC dX10_laysOdds_52 ?_
      refine pz_iload hC dX10_laysOdds_53 3 rfl ?_
      refine pz_i2l hC dX10_laysOdds_55 ?_
      refine pz_ldiv hC dX10_laysOdds_56 hf (fun hf => ?_)
      exact tX10_laysOdds_57 hC hK hk16 hf
    · refine pz_lconst (v := 0) hC dX10_laysOdds_32 (by decide) ?_
      refine pz_goto hC dX10_laysOdds_33 ?_
      exact tX10_laysOdds_57 hC hK hk16 hf
def fX10_laysOdds_16 : Nat → pz_H → Nat → Nat → Int32 → Int32 → Int32 → Option pz_H
  | 0, _, _, _, _, _, _ => none
  | n + 1, f, l0, l1, l2, l4, l5 => fX10_laysOdds_16b (fX10_laysOdds_16 n) f l0 l1 l2 l4 l5
theorem tX10_laysOdds_16 {G : pz_G} {C : pz_C} {r : pz_H} (hC : pz_OK G C cX10_laysOdds 6 RX10) (hK : pz_K C none 2 43 0 0) : ∀ (N : Nat) (f : pz_H) (l0 : Nat) (l1 : Nat) (l2 : Int32) (l4 : Int32) (l5 : Int32), fX10_laysOdds_16 N f l0 l1 l2 l4 l5 = some r → pz_W G C 6 16 [(0, .ref l0), (1, .ref l1), (2, .int l2), (4, .int l4), (5, .int l5)] [] f 0 0 (pz_Q G C none r 0 0) := by
  intro N
  induction N with
  | zero => intro f l0 l1 l2 l4 l5 hf; cases hf
  | succ N ih => intro f l0 l1 l2 l4 l5 hf; exact tX10_laysOdds_16b hC hK (fun f l0 l1 l2 l4 l5 hf => ih f l0 l1 l2 l4 l5 hf) hf
def fnX10_laysOdds (f : pz_H) (a0 : Nat) (p1 : Nat) (p2 : Int32) (p3 : Int32) : Option pz_H :=
  (pz_is f a0 9).bind fun _ =>
  (fnX10_bornOf f a0 p2).bind fun x1 =>
  (fnX10_livesAt f a0 ((p3 - x1))).bind fun x2 =>
  fX10_laysOdds_16 pz_F f a0 p1 p2 x2 p3
theorem mX10_laysOdds {l : Launch} {G : pz_G} {f : pz_H} {a0 : Nat} {p1 : Nat} {p2 : Int32} {p3 : Int32} {r : pz_H} (hf : fnX10_laysOdds f a0 p1 p2 p3 = some r) : pz_Met l G yX10_laysOdds cX10_laysOdds 6 none 2 43 0 0 [.ref a0, .ref p1, .int p2, .int p3] f none r ∧ pz_is f a0 9 = some () := by
  unfold fnX10_laysOdds at hf
  obtain ⟨_, h0, hf⟩ := pz_bd hf
  refine ⟨pz_enter (by decide +kernel) (Nat.le_of_ble_eq_true rfl) (fun C hl hC hK hnm => ?_), h0⟩
  subst hl
  refine pz_sub (lv' := [(0, .ref a0), (1, .ref p1), (2, .int p2), (3, .int p3)]) [0, 1, 2, 3] rfl ?_
  refine pz_aload_n hC dX10_laysOdds_0 0 rfl ?_
  refine pz_iload_n hC dX10_laysOdds_1 3 rfl ?_
  refine pz_aload_n hC dX10_laysOdds_2 0 rfl ?_
  refine pz_iload_n hC dX10_laysOdds_3 2 rfl ?_
  refine pz_Vi (As := [.int p2]) hC hK dX10_laysOdds_4 py_X10_bornOf pv_X10_bornOf lk_X10_103 hf (fun _ h => mX10_bornOf h) rfl rfl (Nat.le_of_ble_eq_true rfl) ⟨by decide, by decide⟩ ⟨by decide, by decide⟩ (fun x1 hf => ?_)
  refine pz_isub hC dX10_laysOdds_7 ?_
  refine pz_Vi (As := [.int (p3 - x1)]) hC hK dX10_laysOdds_8 py_X10_livesAt pv_X10_livesAt lk_X10_106 hf (fun _ h => mX10_livesAt h) rfl rfl (Nat.le_of_ble_eq_true rfl) ⟨by decide, by decide⟩ ⟨by decide, by decide⟩ (fun x2 hf => ?_)
  refine pz_istore hC dX10_laysOdds_11 (by decide) rfl ?_
  refine pz_iload_n hC dX10_laysOdds_13 4 rfl ?_
  refine pz_istore hC dX10_laysOdds_14 (by decide) rfl ?_
  refine pz_sub [2, 3, 4, 1, 0] rfl ?_
  exact tX10_laysOdds_16 hC hK _ _ _ _ _ _ _ hf
def fX10_annuityBy_10b (k10 : pz_H → Nat → Nat → Int32 → Int64 → Int32 → Option (Int64 × pz_H)) (f : pz_H) (l0 : Nat) (l1 : Nat) (l2 : Int32) (l4 : Int64) (l6 : Int32) : Option (Int64 × pz_H) :=
  if (1800 : Int32) ≤ l6 then some (l4, f) else
  (pz_gR f l0 9 7).bind fun v1 =>
  (pz_aL f v1 1 ((l6 - l2))).bind fun v2 =>
  (pz_aL f l1 1 l6).bind fun v3 =>
  k10 f l0 l1 l2 ((l4 + ((v2 * v3) / (1000000000 : Int64)))) ((l6 + 1))
theorem tX10_annuityBy_10b {G : pz_G} {C : pz_C} {f : pz_H} {k10 : pz_H → Nat → Nat → Int32 → Int64 → Int32 → Option (Int64 × pz_H)} {l0 : Nat} {l1 : Nat} {l2 : Int32} {l4 : Int64} {l6 : Int32} {r : (Int64 × pz_H)} (hC : pz_OK G C cX10_annuityBy 7 RX10) (hK : pz_K C (some .long) 6 135 0 0) (hk10 : ∀ (g : pz_H) (a0 : Nat) (a1 : Nat) (a2 : Int32) (a4 : Int64) (a6 : Int32), k10 g a0 a1 a2 a4 a6 = some r → pz_W G C 7 10 [(0, .ref a0), (1, .ref a1), (2, .int a2), (4, .long a4), (6, .int a6)] [] g 0 0 (pz_Q G C (some (.long r.1)) r.2 0 0)) (hf : fX10_annuityBy_10b k10 f l0 l1 l2 l4 l6 = some r) : pz_W G C 7 10 [(0, .ref l0), (1, .ref l1), (2, .int l2), (4, .long l4), (6, .int l6)] [] f 0 0 (pz_Q G C (some (.long r.1)) r.2 0 0) := by
  unfold fX10_annuityBy_10b at hf
  refine pz_iload hC dX10_annuityBy_10 4 rfl ?_
  refine pz_sipush (v := (1800 : Int32)) hC dX10_annuityBy_12 (by decide) ?_
  refine pz_icmp_ge hC dX10_annuityBy_15 hf (fun _ hf => ?_) (fun _ hf => ?_)
  · refine pz_lload hC dX10_annuityBy_47 3 rfl ?_
    exact pz_lretw hC hK dX10_annuityBy_49 hf
  · refine pz_lload hC dX10_annuityBy_18 3 rfl ?_
    refine pz_aload_n hC dX10_annuityBy_20 0 rfl ?_
    refine pz_getR hC dX10_annuityBy_21 fa_X10_23 hf (fun v1 hf => ?_)
    refine pz_iload hC dX10_annuityBy_24 4 rfl ?_
    refine pz_iload_n hC dX10_annuityBy_26 2 rfl ?_
    refine pz_isub hC dX10_annuityBy_27 ?_
    refine pz_lald hC dX10_annuityBy_28 hf (fun v2 hf => ?_)
    refine pz_aload_n hC dX10_annuityBy_29 1 rfl ?_
    refine pz_iload hC dX10_annuityBy_30 4 rfl ?_
    refine pz_lald hC dX10_annuityBy_32 hf (fun v3 hf => ?_)
    refine pz_lmul hC dX10_annuityBy_33 ?_
    refine pz_ldc2 hC dX10_annuityBy_34 ck_X10_87 ?_
    refine pz_ldivc hC dX10_annuityBy_37 (by decide) ?_
    refine pz_ladd hC dX10_annuityBy_38 ?_
    refine pz_lstore hC dX10_annuityBy_39 (by decide) rfl ?_
    refine pz_iinc (v := (l6 + 1)) hC dX10_annuityBy_41 4 rfl rfl (by decide) rfl ?_
    refine pz_goto hC dX10_annuityBy_44 ?_
    refine pz_sub [2, 3, 4, 1, 0] rfl ?_
    exact hk10 _ _ _ _ _ _ hf
def fX10_annuityBy_10 : Nat → pz_H → Nat → Nat → Int32 → Int64 → Int32 → Option (Int64 × pz_H)
  | 0, _, _, _, _, _, _ => none
  | n + 1, f, l0, l1, l2, l4, l6 => fX10_annuityBy_10b (fX10_annuityBy_10 n) f l0 l1 l2 l4 l6
theorem tX10_annuityBy_10 {G : pz_G} {C : pz_C} {r : (Int64 × pz_H)} (hC : pz_OK G C cX10_annuityBy 7 RX10) (hK : pz_K C (some .long) 6 135 0 0) : ∀ (N : Nat) (f : pz_H) (l0 : Nat) (l1 : Nat) (l2 : Int32) (l4 : Int64) (l6 : Int32), fX10_annuityBy_10 N f l0 l1 l2 l4 l6 = some r → pz_W G C 7 10 [(0, .ref l0), (1, .ref l1), (2, .int l2), (4, .long l4), (6, .int l6)] [] f 0 0 (pz_Q G C (some (.long r.1)) r.2 0 0) := by
  intro N
  induction N with
  | zero => intro f l0 l1 l2 l4 l6 hf; cases hf
  | succ N ih => intro f l0 l1 l2 l4 l6 hf; exact tX10_annuityBy_10b hC hK (fun f l0 l1 l2 l4 l6 hf => ih f l0 l1 l2 l4 l6 hf) hf
def fnX10_annuityBy (f : pz_H) (a0 : Nat) (p1 : Nat) (p2 : Int32) (p3 : Int32) : Option (Int64 × pz_H) :=
  (pz_is f a0 9).bind fun _ =>
  (fnX10_laysWholes f a0).bind fun x1 =>
  fX10_annuityBy_10 pz_F x1 a0 p1 p2 ((0 : Int64)) p3
theorem mX10_annuityBy {l : Launch} {G : pz_G} {f : pz_H} {a0 : Nat} {p1 : Nat} {p2 : Int32} {p3 : Int32} {r : (Int64 × pz_H)} (hf : fnX10_annuityBy f a0 p1 p2 p3 = some r) : pz_Met l G yX10_annuityBy cX10_annuityBy 7 (some .long) 6 135 0 0 [.ref a0, .ref p1, .int p2, .int p3] f (some (.long r.1)) r.2 ∧ pz_is f a0 9 = some () := by
  unfold fnX10_annuityBy at hf
  obtain ⟨_, h0, hf⟩ := pz_bd hf
  refine ⟨pz_enter (by decide +kernel) (Nat.le_of_ble_eq_true rfl) (fun C hl hC hK hnm => ?_), h0⟩
  subst hl
  refine pz_sub (lv' := [(0, .ref a0), (1, .ref p1), (2, .int p2), (3, .int p3)]) [0, 1, 2, 3] rfl ?_
  refine pz_aload_n hC dX10_annuityBy_0 0 rfl ?_
  refine pz_Vv (As := []) hC hK dX10_annuityBy_1 py_X10_laysWholes pv_X10_laysWholes lk_X10_95 hf (fun _ h => mX10_laysWholes h) rfl rfl (Nat.le_of_ble_eq_true rfl) ⟨by decide, by decide⟩ ⟨by decide, by decide⟩ (fun x1 hf => ?_)
  refine pz_lconst (v := 0) hC dX10_annuityBy_4 (by decide) ?_
  refine pz_lstore hC dX10_annuityBy_5 (by decide) rfl ?_
  refine pz_iload_n hC dX10_annuityBy_7 4 rfl ?_
  refine pz_istore hC dX10_annuityBy_8 (by decide) rfl ?_
  refine pz_sub [2, 3, 4, 1, 0] rfl ?_
  exact tX10_annuityBy_10 hC hK _ _ _ _ _ _ _ hf
def fX10_areBorn_25 (f : pz_H) (s0 : Int32) : Option Int32 :=
  pz_b s0
theorem tX10_areBorn_25 {G : pz_G} {C : pz_C} {f : pz_H} {s0 : Int32} {r : Int32} (hC : pz_OK G C cX10_areBorn 3 RX10) (hK : pz_K C (some .boolean) 1 22 0 0) (hf : fX10_areBorn_25 f s0 = some r) : pz_W G C 3 25 [] [.int s0] f 0 0 (pz_Q G C (some (.int r)) f 0 0) := by
  unfold fX10_areBorn_25 at hf
  exact pz_zret hC hK dX10_areBorn_25 hf
def fX10_areBorn_24 (f : pz_H) : Option Int32 :=
  fX10_areBorn_25 f ((0 : Int32))
theorem tX10_areBorn_24 {G : pz_G} {C : pz_C} {f : pz_H} {r : Int32} (hC : pz_OK G C cX10_areBorn 3 RX10) (hK : pz_K C (some .boolean) 1 22 0 0) (hf : fX10_areBorn_24 f = some r) : pz_W G C 3 24 [] [] f 0 0 (pz_Q G C (some (.int r)) f 0 0) := by
  unfold fX10_areBorn_24 at hf
  refine pz_iconst (v := (0 : Int32)) hC dX10_areBorn_24 (by decide) ?_
  exact tX10_areBorn_25 hC hK hf
def fnX10_areBorn (f : pz_H) (a0 : Nat) (p1 : Int32) (p2 : Int32) : Option Int32 :=
  (pz_is f a0 9).bind fun _ =>
  (pz_gR f a0 9 1).bind fun v1 =>
  (pz_aI f v1 0 ((0 : Int32))).bind fun v2 =>
  if p2 < v2 then fX10_areBorn_24 f else
  (fnX10_its f a0 p1 ((0 : Int32))).bind fun x3 =>
  if p2 < x3 then fX10_areBorn_24 f else
  fX10_areBorn_25 f ((1 : Int32))
theorem mX10_areBorn {l : Launch} {G : pz_G} {f : pz_H} {a0 : Nat} {p1 : Int32} {p2 : Int32} {r : Int32} (hf : fnX10_areBorn f a0 p1 p2 = some r) : pz_Met l G yX10_areBorn cX10_areBorn 3 (some .boolean) 1 22 0 0 [.ref a0, .int p1, .int p2] f (some (.int r)) f ∧ pz_is f a0 9 = some () := by
  unfold fnX10_areBorn at hf
  obtain ⟨_, h0, hf⟩ := pz_bd hf
  refine ⟨pz_enter (by decide +kernel) (Nat.le_of_ble_eq_true rfl) (fun C hl hC hK hnm => ?_), h0⟩
  subst hl
  refine pz_sub (lv' := [(0, .ref a0), (1, .int p1), (2, .int p2)]) [0, 1, 2] rfl ?_
  refine pz_aload_n hC dX10_areBorn_0 0 rfl ?_
  refine pz_getR hC dX10_areBorn_1 fa_X10_7 hf (fun v1 hf => ?_)
  refine pz_iconst (v := (0 : Int32)) hC dX10_areBorn_4 (by decide) ?_
  refine pz_iald hC dX10_areBorn_5 hf (fun v2 hf => ?_)
  refine pz_iload_n hC dX10_areBorn_6 2 rfl ?_
  refine pz_icmp_gt hC dX10_areBorn_7 hf (fun _ hf => ?_) (fun _ hf => ?_)
  · refine pz_sub [] rfl ?_
    exact tX10_areBorn_24 hC hK hf
  · refine pz_aload_n hC dX10_areBorn_10 0 rfl ?_
    refine pz_iload_n hC dX10_areBorn_11 1 rfl ?_
    refine pz_iconst (v := (0 : Int32)) hC dX10_areBorn_12 (by decide) ?_
    refine pz_Vi (As := [.int p1, .int (0 : Int32)]) hC hK dX10_areBorn_13 py_X10_its pv_X10_its lk_X10_56 hf (fun _ h => mX10_its h) rfl rfl (Nat.le_of_ble_eq_true rfl) ⟨by decide, by decide⟩ ⟨by decide, by decide⟩ (fun x3 hf => ?_)
    refine pz_iload_n hC dX10_areBorn_16 2 rfl ?_
    refine pz_icmp_gt hC dX10_areBorn_17 hf (fun _ hf => ?_) (fun _ hf => ?_)
    · refine pz_sub [] rfl ?_
      exact tX10_areBorn_24 hC hK hf
    · refine pz_iconst (v := (1 : Int32)) hC dX10_areBorn_20 (by decide) ?_
      refine pz_goto hC dX10_areBorn_21 ?_
      refine pz_sub [] rfl ?_
      exact tX10_areBorn_25 hC hK hf
def fX10_ownBy_56 (f : pz_H) (s0 : Int64) : Option (Int64 × pz_H) :=
  some (s0, f)
theorem tX10_ownBy_56 {G : pz_G} {C : pz_C} {f : pz_H} {s0 : Int64} {r : (Int64 × pz_H)} (hC : pz_OK G C cX10_ownBy 10 RX10) (hK : pz_K C (some .long) 7 158 0 0) (hf : fX10_ownBy_56 f s0 = some r) : pz_W G C 10 56 [] [.long s0] f 0 0 (pz_Q G C (some (.long r.1)) r.2 0 0) := by
  unfold fX10_ownBy_56 at hf
  exact pz_lretw hC hK dX10_ownBy_56 hf
def fnX10_ownBy (f : pz_H) (a0 : Nat) (p1 : Int32) (p2 : Int64) (p4 : Int64) : Option (Int64 × pz_H) :=
  (pz_is f a0 9).bind fun _ =>
  if (lg_cmp p4 ((0 : Int64))) = 0 then some ((0 : Int64), f) else
  (pz_gR f a0 9 1).bind fun v1 =>
  (pz_aI f v1 0 ((1 : Int32))).bind fun v2 =>
  (fnX10_shareIn f a0 p1 v2).bind fun x3 =>
  if p4 = 0 then none else
  if (lg_cmp (((((x3.1 * p2) / (1000000000 : Int64)) * (1000000000 : Int64)) / p4)) ((1000000000 : Int64))) ≤ 0 then fX10_ownBy_56 x3.2 (((((x3.1 * p2) / (1000000000 : Int64)) * (1000000000 : Int64)) / p4)) else
  fX10_ownBy_56 x3.2 ((1000000000 : Int64))
theorem mX10_ownBy {l : Launch} {G : pz_G} {f : pz_H} {a0 : Nat} {p1 : Int32} {p2 : Int64} {p4 : Int64} {r : (Int64 × pz_H)} (hf : fnX10_ownBy f a0 p1 p2 p4 = some r) : pz_Met l G yX10_ownBy cX10_ownBy 10 (some .long) 7 158 0 0 [.ref a0, .int p1, .long p2, .long p4] f (some (.long r.1)) r.2 ∧ pz_is f a0 9 = some () := by
  unfold fnX10_ownBy at hf
  obtain ⟨_, h0, hf⟩ := pz_bd hf
  refine ⟨pz_enter (by decide +kernel) (Nat.le_of_ble_eq_true rfl) (fun C hl hC hK hnm => ?_), h0⟩
  subst hl
  refine pz_sub (lv' := [(0, .ref a0), (1, .int p1), (2, .long p2), (4, .long p4)]) [0, 1, 2, 3] rfl ?_
  refine pz_lload hC dX10_ownBy_0 3 rfl ?_
  refine pz_lconst (v := 0) hC dX10_ownBy_2 (by decide) ?_
  refine pz_lcmp hC dX10_ownBy_3 ?_
  refine pz_if_ne hC dX10_ownBy_4 hf (fun _ hf => ?_) (fun _ hf => ?_)
  · refine pz_aload_n hC dX10_ownBy_9 0 rfl ?_
    refine pz_iload_n hC dX10_ownBy_10 1 rfl ?_
    refine pz_aload_n hC dX10_ownBy_11 0 rfl ?_
    refine pz_getR hC dX10_ownBy_12 fa_X10_7 hf (fun v1 hf => ?_)
    refine pz_iconst (v := (1 : Int32)) hC dX10_ownBy_15 (by decide) ?_
    refine pz_iald hC dX10_ownBy_16 hf (fun v2 hf => ?_)
    refine pz_Vlw (As := [.int p1, .int v2]) hC hK dX10_ownBy_17 py_X10_shareIn pv_X10_shareIn lk_X10_128 hf (fun _ h => mX10_shareIn h) rfl rfl (Nat.le_of_ble_eq_true rfl) ⟨by decide, by decide⟩ ⟨by decide, by decide⟩ (fun x3 hf => ?_)
    refine pz_lload_n hC dX10_ownBy_20 2 rfl ?_
    refine pz_lmul hC dX10_ownBy_21 ?_
    refine pz_ldc2 hC dX10_ownBy_22 ck_X10_87 ?_
    refine pz_ldivc hC dX10_ownBy_25 (by decide) ?_
    refine pz_lstore hC dX10_ownBy_26 (by decide) rfl ?_
    refine pz_lload hC dX10_ownBy_28 0 rfl ?_
    refine pz_ldc2 hC dX10_ownBy_30 ck_X10_87 ?_
    refine pz_lmul hC dX10_ownBy_33 ?_
    refine pz_lload hC dX10_ownBy_34 4 rfl ?_
    refine pz_ldiv hC dX10_ownBy_36 hf (fun hf => ?_)
    refine pz_lstore hC dX10_ownBy_37 (by decide) rfl ?_
    refine pz_lload hC dX10_ownBy_39 0 rfl ?_
    refine pz_ldc2 hC dX10_ownBy_41 ck_X10_87 ?_
    refine pz_lcmp hC dX10_ownBy_44 ?_
    refine pz_if_le hC dX10_ownBy_45 hf (fun _ hf => ?_) (fun _ hf => ?_)
    · refine pz_lload hC dX10_ownBy_54 0 rfl ?_
      refine pz_sub [] rfl ?_
      exact tX10_ownBy_56 hC hK hf
    · refine pz_ldc2 hC dX10_ownBy_48 ck_X10_87 ?_
      refine pz_goto hC dX10_ownBy_51 ?_
      refine pz_sub [] rfl ?_
      exact tX10_ownBy_56 hC hK hf
  · refine pz_lconst (v := 0) hC dX10_ownBy_7 (by decide) ?_
    exact pz_lretw hC hK dX10_ownBy_8 hf
def fX10_ownOf_29 (f : pz_H) : Option (Int64 × pz_H) :=
  some ((0 : Int64), f)
theorem tX10_ownOf_29 {G : pz_G} {C : pz_C} {f : pz_H} {r : (Int64 × pz_H)} (hC : pz_OK G C cX10_ownOf 3 RX10) (hK : pz_K C (some .long) 8 187 0 0) (hf : fX10_ownOf_29 f = some r) : pz_W G C 3 29 [] [] f 0 0 (pz_Q G C (some (.long r.1)) r.2 0 0) := by
  unfold fX10_ownOf_29 at hf
  refine pz_lconst (v := 0) hC dX10_ownOf_29 (by decide) ?_
  exact pz_lretw hC hK dX10_ownOf_30 hf
def fnX10_ownOf (f : pz_H) (a0 : Nat) (p1 : Int32) : Option (Int64 × pz_H) :=
  (pz_is f a0 9).bind fun _ =>
  (pz_gR f a0 9 1).bind fun v1 =>
  (pz_aI f v1 0 ((1 : Int32))).bind fun v2 =>
  if v2 = ((-1) : Int32) then fX10_ownOf_29 f else
  (fnX10_isParted f a0 p1).bind fun x3 =>
  if x3 = 0 then fX10_ownOf_29 f else
  (fnX10_areBorn f a0 p1 v2).bind fun x4 =>
  if x4 = 0 then fX10_ownOf_29 f else
  (pz_gR f a0 9 8).bind fun v5 =>
  (fnX10_laysOdds f a0 v5 ((10 : Int32)) v2).bind fun x6 =>
  (pz_gR x6 a0 9 9).bind fun v7 =>
  (fnX10_laysOdds x6 a0 v7 p1 v2).bind fun x8 =>
  (pz_gR x8 a0 9 8).bind fun v9 =>
  (fnX10_annuityBy x8 a0 v9 v2 v2).bind fun x10 =>
  (pz_gR x10.2 a0 9 9).bind fun v11 =>
  (fnX10_begin x10.2 a0 p1).bind fun x12 =>
  (fnX10_annuityBy x10.2 a0 v11 v2 x12).bind fun x13 =>
  (fnX10_ownBy x13.2 a0 p1 x10.1 x13.1).bind fun x14 =>
  some (x14.1, x14.2)
theorem mX10_ownOf {l : Launch} {G : pz_G} {f : pz_H} {a0 : Nat} {p1 : Int32} {r : (Int64 × pz_H)} (hf : fnX10_ownOf f a0 p1 = some r) : pz_Met l G yX10_ownOf cX10_ownOf 3 (some .long) 8 187 0 0 [.ref a0, .int p1] f (some (.long r.1)) r.2 ∧ pz_is f a0 9 = some () := by
  unfold fnX10_ownOf at hf
  obtain ⟨_, h0, hf⟩ := pz_bd hf
  refine ⟨pz_enter (by decide +kernel) (Nat.le_of_ble_eq_true rfl) (fun C hl hC hK hnm => ?_), h0⟩
  subst hl
  refine pz_sub (lv' := [(0, .ref a0), (1, .int p1)]) [0, 1] rfl ?_
  refine pz_aload_n hC dX10_ownOf_0 0 rfl ?_
  refine pz_getR hC dX10_ownOf_1 fa_X10_7 hf (fun v1 hf => ?_)
  refine pz_iconst (v := (1 : Int32)) hC dX10_ownOf_4 (by decide) ?_
  refine pz_iald hC dX10_ownOf_5 hf (fun v2 hf => ?_)
  refine pz_istore_n hC dX10_ownOf_6 (by decide) rfl ?_
  refine pz_iload_n hC dX10_ownOf_7 0 rfl ?_
  refine pz_iconst (v := ((-1) : Int32)) hC dX10_ownOf_8 (by decide) ?_
  refine pz_icmp_eq hC dX10_ownOf_9 hf (fun _ hf => ?_) (fun _ hf => ?_)
  · refine pz_sub [] rfl ?_
    exact tX10_ownOf_29 hC hK hf
  · refine pz_aload_n hC dX10_ownOf_12 1 rfl ?_
    refine pz_iload_n hC dX10_ownOf_13 2 rfl ?_
    refine pz_Vi (As := [.int p1]) hC hK dX10_ownOf_14 py_X10_isParted pv_X10_isParted lk_X10_91 hf (fun _ h => mX10_isParted h) rfl rfl (Nat.le_of_ble_eq_true rfl) ⟨by decide, by decide⟩ ⟨by decide, by decide⟩ (fun x3 hf => ?_)
    refine pz_if_eq hC dX10_ownOf_17 hf (fun _ hf => ?_) (fun _ hf => ?_)
    · refine pz_sub [] rfl ?_
      exact tX10_ownOf_29 hC hK hf
    · refine pz_aload_n hC dX10_ownOf_20 1 rfl ?_
      refine pz_iload_n hC dX10_ownOf_21 2 rfl ?_
      refine pz_iload_n hC dX10_ownOf_22 0 rfl ?_
      refine pz_Vi (As := [.int p1, .int v2]) hC hK dX10_ownOf_23 py_X10_areBorn pv_X10_areBorn lk_X10_109 hf (fun _ h => mX10_areBorn h) rfl rfl (Nat.le_of_ble_eq_true rfl) ⟨by decide, by decide⟩ ⟨by decide, by decide⟩ (fun x4 hf => ?_)
      refine pz_if_ne hC dX10_ownOf_26 hf (fun _ hf => ?_) (fun _ hf => ?_)
      · refine pz_aload_n hC dX10_ownOf_31 1 rfl ?_
        refine pz_aload_n hC dX10_ownOf_32 1 rfl ?_
        refine pz_getR hC dX10_ownOf_33 fa_X10_26 hf (fun v5 hf => ?_)
        refine pz_bipush (v := (10 : Int32)) hC dX10_ownOf_36 (by decide) ?_
        refine pz_iload_n hC dX10_ownOf_38 0 rfl ?_
        refine pz_Vv (As := [.ref v5, .int (10 : Int32), .int v2]) hC hK dX10_ownOf_39 py_X10_laysOdds pv_X10_laysOdds lk_X10_113 hf (fun _ h => mX10_laysOdds h) rfl rfl (Nat.le_of_ble_eq_true rfl) ⟨by decide, by decide⟩ ⟨by decide, by decide⟩ (fun x6 hf => ?_)
        refine pz_aload_n hC dX10_ownOf_42 1 rfl ?_
        refine pz_aload_n hC dX10_ownOf_43 1 rfl ?_
        refine pz_getR hC dX10_ownOf_44 fa_X10_29 hf (fun v7 hf => ?_)
        refine pz_iload_n hC dX10_ownOf_47 2 rfl ?_
        refine pz_iload_n hC dX10_ownOf_48 0 rfl ?_
        refine pz_Vv (As := [.ref v7, .int p1, .int v2]) hC hK dX10_ownOf_49 py_X10_laysOdds pv_X10_laysOdds lk_X10_113 hf (fun _ h => mX10_laysOdds h) rfl rfl (Nat.le_of_ble_eq_true rfl) ⟨by decide, by decide⟩ ⟨by decide, by decide⟩ (fun x8 hf => ?_)
        refine pz_aload_n hC dX10_ownOf_52 1 rfl ?_
        refine pz_iload_n hC dX10_ownOf_53 2 rfl ?_
        refine pz_aload_n hC dX10_ownOf_54 1 rfl ?_
        refine pz_aload_n hC dX10_ownOf_55 1 rfl ?_
        refine pz_getR hC dX10_ownOf_56 fa_X10_26 hf (fun v9 hf => ?_)
        refine pz_iload_n hC dX10_ownOf_59 0 rfl ?_
        refine pz_iload_n hC dX10_ownOf_60 0 rfl ?_
        refine pz_Vlw (As := [.ref v9, .int v2, .int v2]) hC hK dX10_ownOf_61 py_X10_annuityBy pv_X10_annuityBy lk_X10_117 hf (fun _ h => mX10_annuityBy h) rfl rfl (Nat.le_of_ble_eq_true rfl) ⟨by decide, by decide⟩ ⟨by decide, by decide⟩ (fun x10 hf => ?_)
        refine pz_aload_n hC dX10_ownOf_64 1 rfl ?_
        refine pz_aload_n hC dX10_ownOf_65 1 rfl ?_
        refine pz_getR hC dX10_ownOf_66 fa_X10_29 hf (fun v11 hf => ?_)
        refine pz_iload_n hC dX10_ownOf_69 0 rfl ?_
        refine pz_aload_n hC dX10_ownOf_70 1 rfl ?_
        refine pz_iload_n hC dX10_ownOf_71 2 rfl ?_
        refine pz_Vi (As := [.int p1]) hC hK dX10_ownOf_72 py_X10_begin pv_X10_begin lk_X10_121 hf (fun _ h => mX10_begin h) rfl rfl (Nat.le_of_ble_eq_true rfl) ⟨by decide, by decide⟩ ⟨by decide, by decide⟩ (fun x12 hf => ?_)
        refine pz_Vlw (As := [.ref v11, .int v2, .int x12]) hC hK dX10_ownOf_75 py_X10_annuityBy pv_X10_annuityBy lk_X10_117 hf (fun _ h => mX10_annuityBy h) rfl rfl (Nat.le_of_ble_eq_true rfl) ⟨by decide, by decide⟩ ⟨by decide, by decide⟩ (fun x13 hf => ?_)
        refine pz_Vlw (As := [.int p1, .long x10.1, .long x13.1]) hC hK dX10_ownOf_78 py_X10_ownBy pv_X10_ownBy lk_X10_124 hf (fun _ h => mX10_ownBy h) rfl rfl (Nat.le_of_ble_eq_true rfl) ⟨by decide, by decide⟩ ⟨by decide, by decide⟩ (fun x14 hf => ?_)
        exact pz_lretw hC hK dX10_ownOf_81 hf
      · refine pz_sub [] rfl ?_
        exact tX10_ownOf_29 hC hK hf
def fX10_livesIn_15 (f : pz_H) (s0 : Int32) : Option Int32 :=
  pz_b s0
theorem tX10_livesIn_15 {G : pz_G} {C : pz_C} {f : pz_H} {s0 : Int32} {r : Int32} (hC : pz_OK G C cX10_livesIn 3 RX10) (hK : pz_K C (some .boolean) 0 0 0 0) (hf : fX10_livesIn_15 f s0 = some r) : pz_W G C 3 15 [] [.int s0] f 0 0 (pz_Q G C (some (.int r)) f 0 0) := by
  unfold fX10_livesIn_15 at hf
  exact pz_zret hC hK dX10_livesIn_15 hf
def fX10_livesIn_10 (f : pz_H) : Option Int32 :=
  fX10_livesIn_15 f ((1 : Int32))
theorem tX10_livesIn_10 {G : pz_G} {C : pz_C} {f : pz_H} {r : Int32} (hC : pz_OK G C cX10_livesIn 3 RX10) (hK : pz_K C (some .boolean) 0 0 0 0) (hf : fX10_livesIn_10 f = some r) : pz_W G C 3 10 [] [] f 0 0 (pz_Q G C (some (.int r)) f 0 0) := by
  unfold fX10_livesIn_10 at hf
  refine pz_iconst (v := (1 : Int32)) hC dX10_livesIn_10 (by decide) ?_
  refine pz_goto hC dX10_livesIn_11 ?_
  exact tX10_livesIn_15 hC hK hf
def fnX10_livesIn (f : pz_H) (a0 : Nat) (p1 : Int32) (p2 : Int32) : Option Int32 :=
  (pz_is f a0 9).bind fun _ =>
  if p1 = ((-1) : Int32) then fX10_livesIn_10 f else
  if p1 ≤ p2 then fX10_livesIn_15 f ((0 : Int32)) else
  fX10_livesIn_10 f
theorem mX10_livesIn {l : Launch} {G : pz_G} {f : pz_H} {a0 : Nat} {p1 : Int32} {p2 : Int32} {r : Int32} (hf : fnX10_livesIn f a0 p1 p2 = some r) : pz_Met l G yX10_livesIn cX10_livesIn 3 (some .boolean) 0 0 0 0 [.ref a0, .int p1, .int p2] f (some (.int r)) f ∧ pz_is f a0 9 = some () := by
  unfold fnX10_livesIn at hf
  obtain ⟨_, h0, hf⟩ := pz_bd hf
  refine ⟨pz_enter (by decide +kernel) (Nat.le_of_ble_eq_true rfl) (fun C hl hC hK hnm => ?_), h0⟩
  subst hl
  refine pz_sub (lv' := [(0, .ref a0), (1, .int p1), (2, .int p2)]) [0, 1, 2] rfl ?_
  refine pz_iload_n hC dX10_livesIn_0 1 rfl ?_
  refine pz_iconst (v := ((-1) : Int32)) hC dX10_livesIn_1 (by decide) ?_
  refine pz_icmp_eq hC dX10_livesIn_2 hf (fun _ hf => ?_) (fun _ hf => ?_)
  · refine pz_sub [] rfl ?_
    exact tX10_livesIn_10 hC hK hf
  · refine pz_iload_n hC dX10_livesIn_5 2 rfl ?_
    refine pz_iload_n hC dX10_livesIn_6 1 rfl ?_
    refine pz_icmp_ge hC dX10_livesIn_7 hf (fun _ hf => ?_) (fun _ hf => ?_)
    · refine pz_iconst (v := (0 : Int32)) hC dX10_livesIn_14 (by decide) ?_
      refine pz_sub [] rfl ?_
      exact tX10_livesIn_15 hC hK hf
    · refine pz_sub [] rfl ?_
      exact tX10_livesIn_10 hC hK hf
def fX10_laysOwns_2b (k2 : pz_H → Nat → Int32 → Option pz_H) (f : pz_H) (l0 : Nat) (l1 : Int32) : Option pz_H :=
  (pz_gR f l0 9 1).bind fun v1 =>
  (pz_aI f v1 0 ((4 : Int32))).bind fun v2 =>
  if v2 ≤ l1 then some f else
  (pz_gR f l0 9 10).bind fun v3 =>
  (fnX10_ownOf f l0 l1).bind fun x4 =>
  (pz_tL x4.2 v3 1 l1 x4.1).bind fun f5 =>
  k2 f5 l0 ((l1 + 1))
theorem tX10_laysOwns_2b {G : pz_G} {C : pz_C} {f : pz_H} {k2 : pz_H → Nat → Int32 → Option pz_H} {l0 : Nat} {l1 : Int32} {r : pz_H} (hC : pz_OK G C cX10_laysOwns 2 RX10) (hK : pz_K C none 9 209 0 0) (hk2 : ∀ (g : pz_H) (a0 : Nat) (a1 : Int32), k2 g a0 a1 = some r → pz_W G C 2 2 [(0, .ref a0), (1, .int a1)] [] g 0 0 (pz_Q G C none r 0 0)) (hf : fX10_laysOwns_2b k2 f l0 l1 = some r) : pz_W G C 2 2 [(0, .ref l0), (1, .int l1)] [] f 0 0 (pz_Q G C none r 0 0) := by
  unfold fX10_laysOwns_2b at hf
  refine pz_iload_n hC dX10_laysOwns_2 1 rfl ?_
  refine pz_aload_n hC dX10_laysOwns_3 0 rfl ?_
  refine pz_getR hC dX10_laysOwns_4 fa_X10_7 hf (fun v1 hf => ?_)
  refine pz_iconst (v := (4 : Int32)) hC dX10_laysOwns_7 (by decide) ?_
  refine pz_iald hC dX10_laysOwns_8 hf (fun v2 hf => ?_)
  refine pz_icmp_ge hC dX10_laysOwns_9 hf (fun _ hf => ?_) (fun _ hf => ?_)
  · exact pz_vret hC hK dX10_laysOwns_29 hf
  · refine pz_aload_n hC dX10_laysOwns_12 0 rfl ?_
    refine pz_getR hC dX10_laysOwns_13 fa_X10_32 hf (fun v3 hf => ?_)
    refine pz_iload_n hC dX10_laysOwns_16 1 rfl ?_
    refine pz_aload_n hC dX10_laysOwns_17 0 rfl ?_
    refine pz_iload_n hC dX10_laysOwns_18 1 rfl ?_
    refine pz_Vlw (As := [.int l1]) hC hK dX10_laysOwns_19 py_X10_ownOf pv_X10_ownOf lk_X10_132 hf (fun _ h => mX10_ownOf h) rfl rfl (Nat.le_of_ble_eq_true rfl) ⟨by decide, by decide⟩ ⟨by decide, by decide⟩ (fun x4 hf => ?_)
    refine pz_last hC dX10_laysOwns_22 hf (fun f5 hf => ?_)
    refine pz_iinc (v := (l1 + 1)) hC dX10_laysOwns_23 1 rfl rfl (by decide) rfl ?_
    refine pz_goto hC dX10_laysOwns_26 ?_
    refine pz_sub [1, 0] rfl ?_
    exact hk2 _ _ _ hf
def fX10_laysOwns_2 : Nat → pz_H → Nat → Int32 → Option pz_H
  | 0, _, _, _ => none
  | n + 1, f, l0, l1 => fX10_laysOwns_2b (fX10_laysOwns_2 n) f l0 l1
theorem tX10_laysOwns_2 {G : pz_G} {C : pz_C} {r : pz_H} (hC : pz_OK G C cX10_laysOwns 2 RX10) (hK : pz_K C none 9 209 0 0) : ∀ (N : Nat) (f : pz_H) (l0 : Nat) (l1 : Int32), fX10_laysOwns_2 N f l0 l1 = some r → pz_W G C 2 2 [(0, .ref l0), (1, .int l1)] [] f 0 0 (pz_Q G C none r 0 0) := by
  intro N
  induction N with
  | zero => intro f l0 l1 hf; cases hf
  | succ N ih => intro f l0 l1 hf; exact tX10_laysOwns_2b hC hK (fun f l0 l1 hf => ih f l0 l1 hf) hf
def fnX10_laysOwns (f : pz_H) (a0 : Nat) : Option pz_H :=
  (pz_is f a0 9).bind fun _ =>
  fX10_laysOwns_2 pz_F f a0 ((0 : Int32))
theorem mX10_laysOwns {l : Launch} {G : pz_G} {f : pz_H} {a0 : Nat} {r : pz_H} (hf : fnX10_laysOwns f a0 = some r) : pz_Met l G yX10_laysOwns cX10_laysOwns 2 none 9 209 0 0 [.ref a0] f none r ∧ pz_is f a0 9 = some () := by
  unfold fnX10_laysOwns at hf
  obtain ⟨_, h0, hf⟩ := pz_bd hf
  refine ⟨pz_enter (by decide +kernel) (Nat.le_of_ble_eq_true rfl) (fun C hl hC hK hnm => ?_), h0⟩
  subst hl
  refine pz_sub (lv' := [(0, .ref a0)]) [0] rfl ?_
  refine pz_iconst (v := (0 : Int32)) hC dX10_laysOwns_0 (by decide) ?_
  refine pz_istore_n hC dX10_laysOwns_1 (by decide) rfl ?_
  refine pz_sub [1, 0] rfl ?_
  exact tX10_laysOwns_2 hC hK _ _ _ _ hf
def fX10_isPaid_57 (f : pz_H) (s0 : Int32) : Option Int32 :=
  pz_b s0
theorem tX10_isPaid_57 {G : pz_G} {C : pz_C} {f : pz_H} {s0 : Int32} {r : Int32} (hC : pz_OK G C cX10_isPaid 3 RX10) (hK : pz_K C (some .boolean) 2 43 0 0) (hf : fX10_isPaid_57 f s0 = some r) : pz_W G C 3 57 [] [.int s0] f 0 0 (pz_Q G C (some (.int r)) f 0 0) := by
  unfold fX10_isPaid_57 at hf
  exact pz_zret hC hK dX10_isPaid_57 hf
def fX10_isPaid_56 (f : pz_H) : Option Int32 :=
  fX10_isPaid_57 f ((0 : Int32))
theorem tX10_isPaid_56 {G : pz_G} {C : pz_C} {f : pz_H} {r : Int32} (hC : pz_OK G C cX10_isPaid 3 RX10) (hK : pz_K C (some .boolean) 2 43 0 0) (hf : fX10_isPaid_56 f = some r) : pz_W G C 3 56 [] [] f 0 0 (pz_Q G C (some (.int r)) f 0 0) := by
  unfold fX10_isPaid_56 at hf
  refine pz_iconst (v := (0 : Int32)) hC dX10_isPaid_56 (by decide) ?_
  exact tX10_isPaid_57 hC hK hf
def fnX10_isPaid (f : pz_H) (a0 : Nat) (p1 : Int32) (p2 : Int32) : Option Int32 :=
  (pz_is f a0 9).bind fun _ =>
  (fnX10_isParted f a0 p1).bind fun x1 =>
  if x1 = 0 then fX10_isPaid_56 f else
  (fnX10_its f a0 p1 ((2 : Int32))).bind fun x2 =>
  if p2 < x2 then fX10_isPaid_56 f else
  (pz_gR f a0 9 1).bind fun v3 =>
  (pz_aI f v3 0 ((1 : Int32))).bind fun v4 =>
  if v4 = ((-1) : Int32) then fX10_isPaid_56 f else
  (fnX10_begin f a0 p1).bind fun x5 =>
  if p2 < x5 then fX10_isPaid_56 f else
  (fnX10_its f a0 p1 ((7 : Int32))).bind fun x6 =>
  (fnX10_livesIn f a0 x6 p2).bind fun x7 =>
  if x7 = 0 then fX10_isPaid_56 f else
  fX10_isPaid_57 f ((1 : Int32))
theorem mX10_isPaid {l : Launch} {G : pz_G} {f : pz_H} {a0 : Nat} {p1 : Int32} {p2 : Int32} {r : Int32} (hf : fnX10_isPaid f a0 p1 p2 = some r) : pz_Met l G yX10_isPaid cX10_isPaid 3 (some .boolean) 2 43 0 0 [.ref a0, .int p1, .int p2] f (some (.int r)) f ∧ pz_is f a0 9 = some () := by
  unfold fnX10_isPaid at hf
  obtain ⟨_, h0, hf⟩ := pz_bd hf
  refine ⟨pz_enter (by decide +kernel) (Nat.le_of_ble_eq_true rfl) (fun C hl hC hK hnm => ?_), h0⟩
  subst hl
  refine pz_sub (lv' := [(0, .ref a0), (1, .int p1), (2, .int p2)]) [0, 1, 2] rfl ?_
  refine pz_aload_n hC dX10_isPaid_0 0 rfl ?_
  refine pz_iload_n hC dX10_isPaid_1 1 rfl ?_
  refine pz_Vi (As := [.int p1]) hC hK dX10_isPaid_2 py_X10_isParted pv_X10_isParted lk_X10_91 hf (fun _ h => mX10_isParted h) rfl rfl (Nat.le_of_ble_eq_true rfl) ⟨by decide, by decide⟩ ⟨by decide, by decide⟩ (fun x1 hf => ?_)
  refine pz_if_eq hC dX10_isPaid_5 hf (fun _ hf => ?_) (fun _ hf => ?_)
  · refine pz_sub [] rfl ?_
    exact tX10_isPaid_56 hC hK hf
  · refine pz_aload_n hC dX10_isPaid_8 0 rfl ?_
    refine pz_iload_n hC dX10_isPaid_9 1 rfl ?_
    refine pz_iconst (v := (2 : Int32)) hC dX10_isPaid_10 (by decide) ?_
    refine pz_Vi (As := [.int p1, .int (2 : Int32)]) hC hK dX10_isPaid_11 py_X10_its pv_X10_its lk_X10_56 hf (fun _ h => mX10_its h) rfl rfl (Nat.le_of_ble_eq_true rfl) ⟨by decide, by decide⟩ ⟨by decide, by decide⟩ (fun x2 hf => ?_)
    refine pz_iload_n hC dX10_isPaid_14 2 rfl ?_
    refine pz_icmp_gt hC dX10_isPaid_15 hf (fun _ hf => ?_) (fun _ hf => ?_)
    · refine pz_sub [] rfl ?_
      exact tX10_isPaid_56 hC hK hf
    · refine pz_aload_n hC dX10_isPaid_18 0 rfl ?_
      refine pz_getR hC dX10_isPaid_19 fa_X10_7 hf (fun v3 hf => ?_)
      refine pz_iconst (v := (1 : Int32)) hC dX10_isPaid_22 (by decide) ?_
      refine pz_iald hC dX10_isPaid_23 hf (fun v4 hf => ?_)
      refine pz_iconst (v := ((-1) : Int32)) hC dX10_isPaid_24 (by decide) ?_
      refine pz_icmp_eq hC dX10_isPaid_25 hf (fun _ hf => ?_) (fun _ hf => ?_)
      · refine pz_sub [] rfl ?_
        exact tX10_isPaid_56 hC hK hf
      · refine pz_iload_n hC dX10_isPaid_28 2 rfl ?_
        refine pz_aload_n hC dX10_isPaid_29 0 rfl ?_
        refine pz_iload_n hC dX10_isPaid_30 1 rfl ?_
        refine pz_Vi (As := [.int p1]) hC hK dX10_isPaid_31 py_X10_begin pv_X10_begin lk_X10_121 hf (fun _ h => mX10_begin h) rfl rfl (Nat.le_of_ble_eq_true rfl) ⟨by decide, by decide⟩ ⟨by decide, by decide⟩ (fun x5 hf => ?_)
        refine pz_icmp_lt hC dX10_isPaid_34 hf (fun _ hf => ?_) (fun _ hf => ?_)
        · refine pz_sub [] rfl ?_
          exact tX10_isPaid_56 hC hK hf
        · refine pz_aload_n hC dX10_isPaid_37 0 rfl ?_
          refine pz_aload_n hC dX10_isPaid_38 0 rfl ?_
          refine pz_iload_n hC dX10_isPaid_39 1 rfl ?_
          refine pz_bipush (v := (7 : Int32)) hC dX10_isPaid_40 (by decide) ?_
          refine pz_Vi (As := [.int p1, .int (7 : Int32)]) hC hK dX10_isPaid_42 py_X10_its pv_X10_its lk_X10_56 hf (fun _ h => mX10_its h) rfl rfl (Nat.le_of_ble_eq_true rfl) ⟨by decide, by decide⟩ ⟨by decide, by decide⟩ (fun x6 hf => ?_)
          refine pz_iload_n hC dX10_isPaid_45 2 rfl ?_
          refine pz_Vi (As := [.int x6, .int p2]) hC hK dX10_isPaid_46 py_X10_livesIn pv_X10_livesIn lk_X10_136 hf (fun _ h => mX10_livesIn h) rfl rfl (Nat.le_of_ble_eq_true rfl) ⟨by decide, by decide⟩ ⟨by decide, by decide⟩ (fun x7 hf => ?_)
          refine pz_if_eq hC dX10_isPaid_49 hf (fun _ hf => ?_) (fun _ hf => ?_)
          · refine pz_sub [] rfl ?_
            exact tX10_isPaid_56 hC hK hf
          · refine pz_iconst (v := (1 : Int32)) hC dX10_isPaid_52 (by decide) ?_
            refine pz_goto hC dX10_isPaid_53 ?_
            refine pz_sub [] rfl ?_
            exact tX10_isPaid_57 hC hK hf
def fX10_paidBy_64 (f : pz_H) (s0 : Int64) : Option (Int64 × pz_H) :=
  some (s0, f)
theorem tX10_paidBy_64 {G : pz_G} {C : pz_C} {f : pz_H} {s0 : Int64} {r : (Int64 × pz_H)} (hC : pz_OK G C cX10_paidBy 6 RX10) (hK : pz_K C (some .long) 7 158 0 0) (hf : fX10_paidBy_64 f s0 = some r) : pz_W G C 6 64 [] [.long s0] f 0 0 (pz_Q G C (some (.long r.1)) r.2 0 0) := by
  unfold fX10_paidBy_64 at hf
  exact pz_lretw hC hK dX10_paidBy_64 hf
def fnX10_paidBy (f : pz_H) (a0 : Nat) (p1 : Int32) (p2 : Int32) (p3 : Int32) : Option (Int64 × pz_H) :=
  (pz_is f a0 9).bind fun _ =>
  (fnX10_isPaid f a0 p1 p2).bind fun x1 =>
  if x1 = 0 then some ((0 : Int64), f) else
  if p3 = (1 : Int32) then (pz_gR f a0 9 10).bind fun v7 =>
  (pz_aL f v7 1 p1).bind fun v8 =>
  some (v8, f) else
  (fnX10_shareIn f a0 p1 p2).bind fun x2 =>
  (pz_gR x2.2 a0 9 1).bind fun v3 =>
  (pz_aI x2.2 v3 0 ((2 : Int32))).bind fun v4 =>
  (fnX10_livesIn x2.2 a0 v4 p2).bind fun x5 =>
  if x5 = 0 then (fnX10_its x2.2 a0 p1 ((5 : Int32))).bind fun x6 =>
  fX10_paidBy_64 x2.2 (((x2.1 * x6.toInt64) / (1000 : Int64))) else
  fX10_paidBy_64 x2.2 x2.1
theorem mX10_paidBy {l : Launch} {G : pz_G} {f : pz_H} {a0 : Nat} {p1 : Int32} {p2 : Int32} {p3 : Int32} {r : (Int64 × pz_H)} (hf : fnX10_paidBy f a0 p1 p2 p3 = some r) : pz_Met l G yX10_paidBy cX10_paidBy 6 (some .long) 7 158 0 0 [.ref a0, .int p1, .int p2, .int p3] f (some (.long r.1)) r.2 ∧ pz_is f a0 9 = some () := by
  unfold fnX10_paidBy at hf
  obtain ⟨_, h0, hf⟩ := pz_bd hf
  refine ⟨pz_enter (by decide +kernel) (Nat.le_of_ble_eq_true rfl) (fun C hl hC hK hnm => ?_), h0⟩
  subst hl
  refine pz_sub (lv' := [(0, .ref a0), (1, .int p1), (2, .int p2), (3, .int p3)]) [0, 1, 2, 3] rfl ?_
  refine pz_aload_n hC dX10_paidBy_0 0 rfl ?_
  refine pz_iload_n hC dX10_paidBy_1 1 rfl ?_
  refine pz_iload_n hC dX10_paidBy_2 2 rfl ?_
  refine pz_Vi (As := [.int p1, .int p2]) hC hK dX10_paidBy_3 py_X10_isPaid pv_X10_isPaid lk_X10_139 hf (fun _ h => mX10_isPaid h) rfl rfl (Nat.le_of_ble_eq_true rfl) ⟨by decide, by decide⟩ ⟨by decide, by decide⟩ (fun x1 hf => ?_)
  refine pz_if_ne hC dX10_paidBy_6 hf (fun _ hf => ?_) (fun _ hf => ?_)
  · refine pz_iload_n hC dX10_paidBy_11 3 rfl ?_
    refine pz_iconst (v := (1 : Int32)) hC dX10_paidBy_12 (by decide) ?_
    refine pz_icmp_ne hC dX10_paidBy_13 hf (fun _ hf => ?_) (fun _ hf => ?_)
    · refine pz_aload_n hC dX10_paidBy_23 0 rfl ?_
      refine pz_iload_n hC dX10_paidBy_24 1 rfl ?_
      refine pz_iload_n hC dX10_paidBy_25 2 rfl ?_
      refine pz_Vlw (As := [.int p1, .int p2]) hC hK dX10_paidBy_26 py_X10_shareIn pv_X10_shareIn lk_X10_128 hf (fun _ h => mX10_shareIn h) rfl rfl (Nat.le_of_ble_eq_true rfl) ⟨by decide, by decide⟩ ⟨by decide, by decide⟩ (fun x2 hf => ?_)
      refine pz_lstore hC dX10_paidBy_29 (by decide) rfl ?_
      refine pz_aload_n hC dX10_paidBy_31 1 rfl ?_
      refine pz_aload_n hC dX10_paidBy_32 1 rfl ?_
      refine pz_getR hC dX10_paidBy_33 fa_X10_7 hf (fun v3 hf => ?_)
      refine pz_iconst (v := (2 : Int32)) hC dX10_paidBy_36 (by decide) ?_
      refine pz_iald hC dX10_paidBy_37 hf (fun v4 hf => ?_)
      refine pz_iload_n hC dX10_paidBy_38 3 rfl ?_
      refine pz_Vi (As := [.int v4, .int p2]) hC hK dX10_paidBy_39 py_X10_livesIn pv_X10_livesIn lk_X10_136 hf (fun _ h => mX10_livesIn h) rfl rfl (Nat.le_of_ble_eq_true rfl) ⟨by decide, by decide⟩ ⟨by decide, by decide⟩ (fun x5 hf => ?_)
      refine pz_if_eq hC dX10_paidBy_42 hf (fun _ hf => ?_) (fun _ hf => ?_)
      · refine pz_lload hC dX10_paidBy_50 0 rfl ?_
        refine pz_aload_n hC dX10_paidBy_52 1 rfl ?_
        refine pz_iload_n hC dX10_paidBy_53 2 rfl ?_
        refine pz_iconst (v := (5 : Int32)) hC dX10_paidBy_54 (by decide) ?_
        refine pz_Vi (As := [.int p1, .int (5 : Int32)]) hC hK dX10_paidBy_55 py_X10_its pv_X10_its lk_X10_56 hf (fun _ h => mX10_its h) rfl rfl (Nat.le_of_ble_eq_true rfl) ⟨by decide, by decide⟩ ⟨by decide, by decide⟩ (fun x6 hf => ?_)
        refine pz_i2l hC dX10_paidBy_58 ?_
        refine pz_lmul hC dX10_paidBy_59 ?_
        refine pz_ldc2 hC dX10_paidBy_60 ck_X10_78 ?_
        refine pz_ldivc hC dX10_paidBy_63 (by decide) ?_
        refine pz_sub [] rfl ?_
        exact tX10_paidBy_64 hC hK hf
      · refine pz_lload hC dX10_paidBy_45 0 rfl ?_
        refine pz_goto hC dX10_paidBy_47 ?_
        refine pz_sub [] rfl ?_
        exact tX10_paidBy_64 hC hK hf
    · refine pz_aload_n hC dX10_paidBy_16 0 rfl ?_
      refine pz_getR hC dX10_paidBy_17 fa_X10_32 hf (fun v7 hf => ?_)
      refine pz_iload_n hC dX10_paidBy_20 1 rfl ?_
      refine pz_lald hC dX10_paidBy_21 hf (fun v8 hf => ?_)
      exact pz_lretw hC hK dX10_paidBy_22 hf
  · refine pz_lconst (v := 0) hC dX10_paidBy_9 (by decide) ?_
    exact pz_lretw hC hK dX10_paidBy_10 hf
def fX10_paidMember_95 (k30 : pz_H → Nat → Int32 → Int64 → Int32 → Option (Int64 × pz_H)) (f : pz_H) (l0 : Nat) (l1 : Int32) (l2 : Int64) (l4 : Int32) : Option (Int64 × pz_H) :=
  k30 f l0 l1 l2 ((l4 + 1))
theorem tX10_paidMember_95 {G : pz_G} {C : pz_C} {f : pz_H} {k30 : pz_H → Nat → Int32 → Int64 → Int32 → Option (Int64 × pz_H)} {l0 : Nat} {l1 : Int32} {l2 : Int64} {l4 : Int32} {r : (Int64 × pz_H)} (hC : pz_OK G C cX10_paidMember 5 RX10) (hK : pz_K C (some .long) 8 183 0 0) (hk30 : ∀ (g : pz_H) (a0 : Nat) (a1 : Int32) (a2 : Int64) (a4 : Int32), k30 g a0 a1 a2 a4 = some r → pz_W G C 5 30 [(0, .ref a0), (1, .int a1), (2, .long a2), (4, .int a4)] [] g 0 0 (pz_Q G C (some (.long r.1)) r.2 0 0)) (hf : fX10_paidMember_95 k30 f l0 l1 l2 l4 = some r) : pz_W G C 5 95 [(0, .ref l0), (1, .int l1), (2, .long l2), (4, .int l4)] [] f 0 0 (pz_Q G C (some (.long r.1)) r.2 0 0) := by
  unfold fX10_paidMember_95 at hf
  refine pz_iinc (v := (l4 + 1)) hC dX10_paidMember_95 3 rfl rfl (by decide) rfl ?_
  refine pz_goto hC dX10_paidMember_98 ?_
  refine pz_sub [1, 2, 3, 0] rfl ?_
  exact hk30 _ _ _ _ _ hf
def fX10_paidMember_30b (k30 : pz_H → Nat → Int32 → Int64 → Int32 → Option (Int64 × pz_H)) (f : pz_H) (l0 : Nat) (l1 : Int32) (l2 : Int64) (l4 : Int32) : Option (Int64 × pz_H) :=
  (pz_gR f l0 9 1).bind fun v1 =>
  (pz_aI f v1 0 ((4 : Int32))).bind fun v2 =>
  if v2 ≤ l4 then some (l2, f) else
  (fnX10_its f l0 l4 ((4 : Int32))).bind fun x3 =>
  if x3 = 0 then (fnX10_paidBy f l0 l4 l1 ((0 : Int32))).bind fun x7 =>
  fX10_paidMember_95 k30 x7.2 l0 l1 ((l2 - x7.1)) l4 else
  (fnX10_isParted f l0 l4).bind fun x4 =>
  if x4 = 0 then fX10_paidMember_95 k30 f l0 l1 l2 l4 else
  (fnX10_its f l0 l4 ((2 : Int32))).bind fun x5 =>
  if l1 < x5 then fX10_paidMember_95 k30 f l0 l1 l2 l4 else
  (fnX10_shareIn f l0 l4 l1).bind fun x6 =>
  fX10_paidMember_95 k30 x6.2 l0 l1 ((l2 - x6.1)) l4
theorem tX10_paidMember_30b {G : pz_G} {C : pz_C} {f : pz_H} {k30 : pz_H → Nat → Int32 → Int64 → Int32 → Option (Int64 × pz_H)} {l0 : Nat} {l1 : Int32} {l2 : Int64} {l4 : Int32} {r : (Int64 × pz_H)} (hC : pz_OK G C cX10_paidMember 5 RX10) (hK : pz_K C (some .long) 8 183 0 0) (hk30 : ∀ (g : pz_H) (a0 : Nat) (a1 : Int32) (a2 : Int64) (a4 : Int32), k30 g a0 a1 a2 a4 = some r → pz_W G C 5 30 [(0, .ref a0), (1, .int a1), (2, .long a2), (4, .int a4)] [] g 0 0 (pz_Q G C (some (.long r.1)) r.2 0 0)) (hf : fX10_paidMember_30b k30 f l0 l1 l2 l4 = some r) : pz_W G C 5 30 [(0, .ref l0), (1, .int l1), (2, .long l2), (4, .int l4)] [] f 0 0 (pz_Q G C (some (.long r.1)) r.2 0 0) := by
  unfold fX10_paidMember_30b at hf
  refine pz_iload hC dX10_paidMember_30 3 rfl ?_
  refine pz_aload_n hC dX10_paidMember_32 0 rfl ?_
  refine pz_getR hC dX10_paidMember_33 fa_X10_7 hf (fun v1 hf => ?_)
  refine pz_iconst (v := (4 : Int32)) hC dX10_paidMember_36 (by decide) ?_
  refine pz_iald hC dX10_paidMember_37 hf (fun v2 hf => ?_)
  refine pz_icmp_ge hC dX10_paidMember_38 hf (fun _ hf => ?_) (fun _ hf => ?_)
  · refine pz_lload_n hC dX10_paidMember_101 2 rfl ?_
    exact pz_lretw hC hK dX10_paidMember_102 hf
  · refine pz_aload_n hC dX10_paidMember_41 0 rfl ?_
    refine pz_iload hC dX10_paidMember_42 3 rfl ?_
    refine pz_iconst (v := (4 : Int32)) hC dX10_paidMember_44 (by decide) ?_
    refine pz_Vi (As := [.int l4, .int (4 : Int32)]) hC hK dX10_paidMember_45 py_X10_its pv_X10_its lk_X10_56 hf (fun _ h => mX10_its h) rfl rfl (Nat.le_of_ble_eq_true rfl) ⟨by decide, by decide⟩ ⟨by decide, by decide⟩ (fun x3 hf => ?_)
    refine pz_if_ne hC dX10_paidMember_48 hf (fun _ hf => ?_) (fun _ hf => ?_)
    · refine pz_aload_n hC dX10_paidMember_65 0 rfl ?_
      refine pz_iload hC dX10_paidMember_66 3 rfl ?_
      refine pz_Vi (As := [.int l4]) hC hK dX10_paidMember_68 py_X10_isParted pv_X10_isParted lk_X10_91 hf (fun _ h => mX10_isParted h) rfl rfl (Nat.le_of_ble_eq_true rfl) ⟨by decide, by decide⟩ ⟨by decide, by decide⟩ (fun x4 hf => ?_)
      refine pz_if_eq hC dX10_paidMember_71 hf (fun _ hf => ?_) (fun _ hf => ?_)
      · exact tX10_paidMember_95 hC hK hk30 hf
      · refine pz_aload_n hC dX10_paidMember_74 0 rfl ?_
        refine pz_iload hC dX10_paidMember_75 3 rfl ?_
        refine pz_iconst (v := (2 : Int32)) hC dX10_paidMember_77 (by decide) ?_
        refine pz_Vi (As := [.int l4, .int (2 : Int32)]) hC hK dX10_paidMember_78 py_X10_its pv_X10_its lk_X10_56 hf (fun _ h => mX10_its h) rfl rfl (Nat.le_of_ble_eq_true rfl) ⟨by decide, by decide⟩ ⟨by decide, by decide⟩ (fun x5 hf => ?_)
        refine pz_iload_n hC dX10_paidMember_81 1 rfl ?_
        refine pz_icmp_gt hC dX10_paidMember_82 hf (fun _ hf => ?_) (fun _ hf => ?_)
        · exact tX10_paidMember_95 hC hK hk30 hf
        · refine pz_lload_n hC dX10_paidMember_85 2 rfl ?_
          refine pz_aload_n hC dX10_paidMember_86 0 rfl ?_
          refine pz_iload hC dX10_paidMember_87 3 rfl ?_
          refine pz_iload_n hC dX10_paidMember_89 1 rfl ?_
          refine pz_Vlw (As := [.int l4, .int l1]) hC hK dX10_paidMember_90 py_X10_shareIn pv_X10_shareIn lk_X10_128 hf (fun _ h => mX10_shareIn h) rfl rfl (Nat.le_of_ble_eq_true rfl) ⟨by decide, by decide⟩ ⟨by decide, by decide⟩ (fun x6 hf => ?_)
          refine pz_lsub hC dX10_paidMember_93 ?_
          refine pz_lstore_n hC dX10_paidMember_94 (by decide) rfl ?_
          refine pz_sub [1, 2, 0, 3] rfl ?_
          exact tX10_paidMember_95 hC hK hk30 hf
    · refine pz_lload_n hC dX10_paidMember_51 2 rfl ?_
      refine pz_aload_n hC dX10_paidMember_52 0 rfl ?_
      refine pz_iload hC dX10_paidMember_53 3 rfl ?_
      refine pz_iload_n hC dX10_paidMember_55 1 rfl ?_
      refine pz_iconst (v := (0 : Int32)) hC dX10_paidMember_56 (by decide) ?_
      refine pz_Vlw (As := [.int l4, .int l1, .int (0 : Int32)]) hC hK dX10_paidMember_57 py_X10_paidBy pv_X10_paidBy lk_X10_142 hf (fun _ h => mX10_paidBy h) rfl rfl (Nat.le_of_ble_eq_true rfl) ⟨by decide, by decide⟩ ⟨by decide, by decide⟩ (fun x7 hf => ?_)
      refine pz_lsub hC dX10_paidMember_60 ?_
      refine pz_lstore_n hC dX10_paidMember_61 (by decide) rfl ?_
      refine pz_goto hC dX10_paidMember_62 ?_
      refine pz_sub [1, 2, 0, 3] rfl ?_
      exact tX10_paidMember_95 hC hK hk30 hf
def fX10_paidMember_30 : Nat → pz_H → Nat → Int32 → Int64 → Int32 → Option (Int64 × pz_H)
  | 0, _, _, _, _, _ => none
  | n + 1, f, l0, l1, l2, l4 => fX10_paidMember_30b (fX10_paidMember_30 n) f l0 l1 l2 l4
theorem tX10_paidMember_30 {G : pz_G} {C : pz_C} {r : (Int64 × pz_H)} (hC : pz_OK G C cX10_paidMember 5 RX10) (hK : pz_K C (some .long) 8 183 0 0) : ∀ (N : Nat) (f : pz_H) (l0 : Nat) (l1 : Int32) (l2 : Int64) (l4 : Int32), fX10_paidMember_30 N f l0 l1 l2 l4 = some r → pz_W G C 5 30 [(0, .ref l0), (1, .int l1), (2, .long l2), (4, .int l4)] [] f 0 0 (pz_Q G C (some (.long r.1)) r.2 0 0) := by
  intro N
  induction N with
  | zero => intro f l0 l1 l2 l4 hf; cases hf
  | succ N ih => intro f l0 l1 l2 l4 hf; exact tX10_paidMember_30b hC hK (fun f l0 l1 l2 l4 hf => ih f l0 l1 l2 l4 hf) hf
def fnX10_paidMember (f : pz_H) (a0 : Nat) (p1 : Int32) : Option (Int64 × pz_H) :=
  (pz_is f a0 9).bind fun _ =>
  (pz_gR f a0 9 1).bind fun v1 =>
  (pz_aI f v1 0 ((2 : Int32))).bind fun v2 =>
  (fnX10_livesIn f a0 v2 p1).bind fun x3 =>
  if x3 = 0 then some ((0 : Int64), f) else
  (fnX10_laysWholes f a0).bind fun x4 =>
  (pz_gR x4 a0 9 5).bind fun v5 =>
  (pz_aL x4 v5 1 p1).bind fun v6 =>
  fX10_paidMember_30 pz_F x4 a0 p1 v6 ((0 : Int32))
theorem mX10_paidMember {l : Launch} {G : pz_G} {f : pz_H} {a0 : Nat} {p1 : Int32} {r : (Int64 × pz_H)} (hf : fnX10_paidMember f a0 p1 = some r) : pz_Met l G yX10_paidMember cX10_paidMember 5 (some .long) 8 183 0 0 [.ref a0, .int p1] f (some (.long r.1)) r.2 ∧ pz_is f a0 9 = some () := by
  unfold fnX10_paidMember at hf
  obtain ⟨_, h0, hf⟩ := pz_bd hf
  refine ⟨pz_enter (by decide +kernel) (Nat.le_of_ble_eq_true rfl) (fun C hl hC hK hnm => ?_), h0⟩
  subst hl
  refine pz_sub (lv' := [(0, .ref a0), (1, .int p1)]) [0, 1] rfl ?_
  refine pz_aload_n hC dX10_paidMember_0 0 rfl ?_
  refine pz_aload_n hC dX10_paidMember_1 0 rfl ?_
  refine pz_getR hC dX10_paidMember_2 fa_X10_7 hf (fun v1 hf => ?_)
  refine pz_iconst (v := (2 : Int32)) hC dX10_paidMember_5 (by decide) ?_
  refine pz_iald hC dX10_paidMember_6 hf (fun v2 hf => ?_)
  refine pz_iload_n hC dX10_paidMember_7 1 rfl ?_
  refine pz_Vi (As := [.int v2, .int p1]) hC hK dX10_paidMember_8 py_X10_livesIn pv_X10_livesIn lk_X10_136 hf (fun _ h => mX10_livesIn h) rfl rfl (Nat.le_of_ble_eq_true rfl) ⟨by decide, by decide⟩ ⟨by decide, by decide⟩ (fun x3 hf => ?_)
  refine pz_if_ne hC dX10_paidMember_11 hf (fun _ hf => ?_) (fun _ hf => ?_)
  · refine pz_aload_n hC dX10_paidMember_16 0 rfl ?_
    refine pz_Vv (As := []) hC hK dX10_paidMember_17 py_X10_laysWholes pv_X10_laysWholes lk_X10_95 hf (fun _ h => mX10_laysWholes h) rfl rfl (Nat.le_of_ble_eq_true rfl) ⟨by decide, by decide⟩ ⟨by decide, by decide⟩ (fun x4 hf => ?_)
    refine pz_aload_n hC dX10_paidMember_20 0 rfl ?_
    refine pz_getR hC dX10_paidMember_21 fa_X10_19 hf (fun v5 hf => ?_)
    refine pz_iload_n hC dX10_paidMember_24 1 rfl ?_
    refine pz_lald hC dX10_paidMember_25 hf (fun v6 hf => ?_)
    refine pz_lstore_n hC dX10_paidMember_26 (by decide) rfl ?_
    refine pz_iconst (v := (0 : Int32)) hC dX10_paidMember_27 (by decide) ?_
    refine pz_istore hC dX10_paidMember_28 (by decide) rfl ?_
    refine pz_sub [2, 3, 1, 0] rfl ?_
    exact tX10_paidMember_30 hC hK _ _ _ _ _ _ hf
  · refine pz_lconst (v := 0) hC dX10_paidMember_14 (by decide) ?_
    exact pz_lretw hC hK dX10_paidMember_15 hf
def fX10_paidTo_51b (k51 : pz_H → Nat → Int32 → Int64 → Int32 → Option (Int64 × pz_H)) (f : pz_H) (l0 : Nat) (l1 : Int32) (l3 : Int64) (l5 : Int32) : Option (Int64 × pz_H) :=
  (pz_gR f l0 9 1).bind fun v1 =>
  (pz_aI f v1 0 ((4 : Int32))).bind fun v2 =>
  if v2 ≤ l5 then some (l3, f) else
  (fnX10_its f l0 l5 ((4 : Int32))).bind fun x3 =>
  (fnX10_paidBy f l0 l5 l1 x3).bind fun x4 =>
  k51 x4.2 l0 l1 ((l3 - x4.1)) ((l5 + 1))
theorem tX10_paidTo_51b {G : pz_G} {C : pz_C} {f : pz_H} {k51 : pz_H → Nat → Int32 → Int64 → Int32 → Option (Int64 × pz_H)} {l0 : Nat} {l1 : Int32} {l3 : Int64} {l5 : Int32} {r : (Int64 × pz_H)} (hC : pz_OK G C cX10_paidTo 6 RX10) (hK : pz_K C (some .long) 9 207 0 0) (hk51 : ∀ (g : pz_H) (a0 : Nat) (a1 : Int32) (a3 : Int64) (a5 : Int32), k51 g a0 a1 a3 a5 = some r → pz_W G C 6 51 [(0, .ref a0), (1, .int a1), (3, .long a3), (5, .int a5)] [] g 0 0 (pz_Q G C (some (.long r.1)) r.2 0 0)) (hf : fX10_paidTo_51b k51 f l0 l1 l3 l5 = some r) : pz_W G C 6 51 [(0, .ref l0), (1, .int l1), (3, .long l3), (5, .int l5)] [] f 0 0 (pz_Q G C (some (.long r.1)) r.2 0 0) := by
  unfold fX10_paidTo_51b at hf
  refine pz_iload hC dX10_paidTo_51 3 rfl ?_
  refine pz_aload_n hC dX10_paidTo_53 0 rfl ?_
  refine pz_getR hC dX10_paidTo_54 fa_X10_7 hf (fun v1 hf => ?_)
  refine pz_iconst (v := (4 : Int32)) hC dX10_paidTo_57 (by decide) ?_
  refine pz_iald hC dX10_paidTo_58 hf (fun v2 hf => ?_)
  refine pz_icmp_ge hC dX10_paidTo_59 hf (fun _ hf => ?_) (fun _ hf => ?_)
  · refine pz_lload_n hC dX10_paidTo_85 2 rfl ?_
    exact pz_lretw hC hK dX10_paidTo_86 hf
  · refine pz_lload_n hC dX10_paidTo_62 2 rfl ?_
    refine pz_aload_n hC dX10_paidTo_63 0 rfl ?_
    refine pz_iload hC dX10_paidTo_64 3 rfl ?_
    refine pz_iload_n hC dX10_paidTo_66 1 rfl ?_
    refine pz_aload_n hC dX10_paidTo_67 0 rfl ?_
    refine pz_iload hC dX10_paidTo_68 3 rfl ?_
    refine pz_iconst (v := (4 : Int32)) hC dX10_paidTo_70 (by decide) ?_
    refine pz_Vi (As := [.int l5, .int (4 : Int32)]) hC hK dX10_paidTo_71 py_X10_its pv_X10_its lk_X10_56 hf (fun _ h => mX10_its h) rfl rfl (Nat.le_of_ble_eq_true rfl) ⟨by decide, by decide⟩ ⟨by decide, by decide⟩ (fun x3 hf => ?_)
    refine pz_Vlw (As := [.int l5, .int l1, .int x3]) hC hK dX10_paidTo_74 py_X10_paidBy pv_X10_paidBy lk_X10_142 hf (fun _ h => mX10_paidBy h) rfl rfl (Nat.le_of_ble_eq_true rfl) ⟨by decide, by decide⟩ ⟨by decide, by decide⟩ (fun x4 hf => ?_)
    refine pz_lsub hC dX10_paidTo_77 ?_
    refine pz_lstore_n hC dX10_paidTo_78 (by decide) rfl ?_
    refine pz_iinc (v := (l5 + 1)) hC dX10_paidTo_79 3 rfl rfl (by decide) rfl ?_
    refine pz_goto hC dX10_paidTo_82 ?_
    refine pz_sub [2, 3, 1, 0] rfl ?_
    exact hk51 _ _ _ _ _ hf
def fX10_paidTo_51 : Nat → pz_H → Nat → Int32 → Int64 → Int32 → Option (Int64 × pz_H)
  | 0, _, _, _, _, _ => none
  | n + 1, f, l0, l1, l3, l5 => fX10_paidTo_51b (fX10_paidTo_51 n) f l0 l1 l3 l5
theorem tX10_paidTo_51 {G : pz_G} {C : pz_C} {r : (Int64 × pz_H)} (hC : pz_OK G C cX10_paidTo 6 RX10) (hK : pz_K C (some .long) 9 207 0 0) : ∀ (N : Nat) (f : pz_H) (l0 : Nat) (l1 : Int32) (l3 : Int64) (l5 : Int32), fX10_paidTo_51 N f l0 l1 l3 l5 = some r → pz_W G C 6 51 [(0, .ref l0), (1, .int l1), (3, .long l3), (5, .int l5)] [] f 0 0 (pz_Q G C (some (.long r.1)) r.2 0 0) := by
  intro N
  induction N with
  | zero => intro f l0 l1 l3 l5 hf; cases hf
  | succ N ih => intro f l0 l1 l3 l5 hf; exact tX10_paidTo_51b hC hK (fun f l0 l1 l3 l5 hf => ih f l0 l1 l3 l5 hf) hf
def fnX10_paidTo (f : pz_H) (a0 : Nat) (p1 : Int32) (p2 : Int32) : Option (Int64 × pz_H) :=
  (pz_is f a0 9).bind fun _ =>
  if p2 = (10 : Int32) then (fnX10_paidMember f a0 p1).bind fun x7 =>
  some (x7.1, x7.2) else
  if p2 = (11 : Int32) then (fnX10_laysWholes f a0).bind fun x1 =>
  (pz_gR x1 a0 9 5).bind fun v2 =>
  (pz_aL x1 v2 1 p1).bind fun v3 =>
  (fnX10_paidMember x1 a0 p1).bind fun x4 =>
  fX10_paidTo_51 pz_F x4.2 a0 p1 ((v3 - x4.1)) ((0 : Int32)) else
  (fnX10_its f a0 p2 ((4 : Int32))).bind fun x5 =>
  (fnX10_paidBy f a0 p2 p1 x5).bind fun x6 =>
  some (x6.1, x6.2)
theorem mX10_paidTo {l : Launch} {G : pz_G} {f : pz_H} {a0 : Nat} {p1 : Int32} {p2 : Int32} {r : (Int64 × pz_H)} (hf : fnX10_paidTo f a0 p1 p2 = some r) : pz_Met l G yX10_paidTo cX10_paidTo 6 (some .long) 9 207 0 0 [.ref a0, .int p1, .int p2] f (some (.long r.1)) r.2 ∧ pz_is f a0 9 = some () := by
  unfold fnX10_paidTo at hf
  obtain ⟨_, h0, hf⟩ := pz_bd hf
  refine ⟨pz_enter (by decide +kernel) (Nat.le_of_ble_eq_true rfl) (fun C hl hC hK hnm => ?_), h0⟩
  subst hl
  refine pz_sub (lv' := [(0, .ref a0), (1, .int p1), (2, .int p2)]) [0, 1, 2] rfl ?_
  refine pz_iload_n hC dX10_paidTo_0 2 rfl ?_
  refine pz_bipush (v := (10 : Int32)) hC dX10_paidTo_1 (by decide) ?_
  refine pz_icmp_ne hC dX10_paidTo_3 hf (fun _ hf => ?_) (fun _ hf => ?_)
  · refine pz_iload_n hC dX10_paidTo_12 2 rfl ?_
    refine pz_bipush (v := (11 : Int32)) hC dX10_paidTo_13 (by decide) ?_
    refine pz_icmp_eq hC dX10_paidTo_15 hf (fun _ hf => ?_) (fun _ hf => ?_)
    · refine pz_aload_n hC dX10_paidTo_31 0 rfl ?_
      refine pz_Vv (As := []) hC hK dX10_paidTo_32 py_X10_laysWholes pv_X10_laysWholes lk_X10_95 hf (fun _ h => mX10_laysWholes h) rfl rfl (Nat.le_of_ble_eq_true rfl) ⟨by decide, by decide⟩ ⟨by decide, by decide⟩ (fun x1 hf => ?_)
      refine pz_aload_n hC dX10_paidTo_35 0 rfl ?_
      refine pz_getR hC dX10_paidTo_36 fa_X10_19 hf (fun v2 hf => ?_)
      refine pz_iload_n hC dX10_paidTo_39 1 rfl ?_
      refine pz_lald hC dX10_paidTo_40 hf (fun v3 hf => ?_)
      refine pz_aload_n hC dX10_paidTo_41 0 rfl ?_
      refine pz_iload_n hC dX10_paidTo_42 1 rfl ?_
      refine pz_Vlw (As := [.int p1]) hC hK dX10_paidTo_43 py_X10_paidMember pv_X10_paidMember lk_X10_146 hf (fun _ h => mX10_paidMember h) rfl rfl (Nat.le_of_ble_eq_true rfl) ⟨by decide, by decide⟩ ⟨by decide, by decide⟩ (fun x4 hf => ?_)
      refine pz_lsub hC dX10_paidTo_46 ?_
      refine pz_lstore_n hC dX10_paidTo_47 (by decide) rfl ?_
      refine pz_iconst (v := (0 : Int32)) hC dX10_paidTo_48 (by decide) ?_
      refine pz_istore hC dX10_paidTo_49 (by decide) rfl ?_
      refine pz_sub [2, 3, 1, 0] rfl ?_
      exact tX10_paidTo_51 hC hK _ _ _ _ _ _ hf
    · refine pz_aload_n hC dX10_paidTo_18 0 rfl ?_
      refine pz_iload_n hC dX10_paidTo_19 2 rfl ?_
      refine pz_iload_n hC dX10_paidTo_20 1 rfl ?_
      refine pz_aload_n hC dX10_paidTo_21 0 rfl ?_
      refine pz_iload_n hC dX10_paidTo_22 2 rfl ?_
      refine pz_iconst (v := (4 : Int32)) hC dX10_paidTo_23 (by decide) ?_
      refine pz_Vi (As := [.int p2, .int (4 : Int32)]) hC hK dX10_paidTo_24 py_X10_its pv_X10_its lk_X10_56 hf (fun _ h => mX10_its h) rfl rfl (Nat.le_of_ble_eq_true rfl) ⟨by decide, by decide⟩ ⟨by decide, by decide⟩ (fun x5 hf => ?_)
      refine pz_Vlw (As := [.int p2, .int p1, .int x5]) hC hK dX10_paidTo_27 py_X10_paidBy pv_X10_paidBy lk_X10_142 hf (fun _ h => mX10_paidBy h) rfl rfl (Nat.le_of_ble_eq_true rfl) ⟨by decide, by decide⟩ ⟨by decide, by decide⟩ (fun x6 hf => ?_)
      exact pz_lretw hC hK dX10_paidTo_30 hf
  · refine pz_aload_n hC dX10_paidTo_6 0 rfl ?_
    refine pz_iload_n hC dX10_paidTo_7 1 rfl ?_
    refine pz_Vlw (As := [.int p1]) hC hK dX10_paidTo_8 py_X10_paidMember pv_X10_paidMember lk_X10_146 hf (fun _ h => mX10_paidMember h) rfl rfl (Nat.le_of_ble_eq_true rfl) ⟨by decide, by decide⟩ ⟨by decide, by decide⟩ (fun x7 hf => ?_)
    exact pz_lretw hC hK dX10_paidTo_11 hf
def fX10_isWho_19 (f : pz_H) (s0 : Int32) : Option Int32 :=
  pz_b s0
theorem tX10_isWho_19 {G : pz_G} {C : pz_C} {f : pz_H} {s0 : Int32} {r : Int32} (hC : pz_OK G C cX10_isWho 2 RX10) (hK : pz_K C (some .boolean) 2 43 0 0) (hf : fX10_isWho_19 f s0 = some r) : pz_W G C 2 19 [] [.int s0] f 0 0 (pz_Q G C (some (.int r)) f 0 0) := by
  unfold fX10_isWho_19 at hf
  exact pz_zret hC hK dX10_isWho_19 hf
def fX10_isWho_14 (f : pz_H) : Option Int32 :=
  fX10_isWho_19 f ((1 : Int32))
theorem tX10_isWho_14 {G : pz_G} {C : pz_C} {f : pz_H} {r : Int32} (hC : pz_OK G C cX10_isWho 2 RX10) (hK : pz_K C (some .boolean) 2 43 0 0) (hf : fX10_isWho_14 f = some r) : pz_W G C 2 14 [] [] f 0 0 (pz_Q G C (some (.int r)) f 0 0) := by
  unfold fX10_isWho_14 at hf
  refine pz_iconst (v := (1 : Int32)) hC dX10_isWho_14 (by decide) ?_
  refine pz_goto hC dX10_isWho_15 ?_
  exact tX10_isWho_19 hC hK hf
def fnX10_isWho (f : pz_H) (a0 : Nat) (p1 : Int32) : Option Int32 :=
  (pz_is f a0 9).bind fun _ =>
  if p1 = (10 : Int32) then fX10_isWho_14 f else
  (fnX10_isSpouse f a0 p1).bind fun x1 =>
  if x1 = 0 then fX10_isWho_19 f ((0 : Int32)) else
  fX10_isWho_14 f
theorem mX10_isWho {l : Launch} {G : pz_G} {f : pz_H} {a0 : Nat} {p1 : Int32} {r : Int32} (hf : fnX10_isWho f a0 p1 = some r) : pz_Met l G yX10_isWho cX10_isWho 2 (some .boolean) 2 43 0 0 [.ref a0, .int p1] f (some (.int r)) f ∧ pz_is f a0 9 = some () := by
  unfold fnX10_isWho at hf
  obtain ⟨_, h0, hf⟩ := pz_bd hf
  refine ⟨pz_enter (by decide +kernel) (Nat.le_of_ble_eq_true rfl) (fun C hl hC hK hnm => ?_), h0⟩
  subst hl
  refine pz_sub (lv' := [(0, .ref a0), (1, .int p1)]) [0, 1] rfl ?_
  refine pz_iload_n hC dX10_isWho_0 1 rfl ?_
  refine pz_bipush (v := (10 : Int32)) hC dX10_isWho_1 (by decide) ?_
  refine pz_icmp_eq hC dX10_isWho_3 hf (fun _ hf => ?_) (fun _ hf => ?_)
  · refine pz_sub [] rfl ?_
    exact tX10_isWho_14 hC hK hf
  · refine pz_aload_n hC dX10_isWho_6 0 rfl ?_
    refine pz_iload_n hC dX10_isWho_7 1 rfl ?_
    refine pz_Vi (As := [.int p1]) hC hK dX10_isWho_8 py_X10_isSpouse pv_X10_isSpouse lk_X10_149 hf (fun _ h => mX10_isSpouse h) rfl rfl (Nat.le_of_ble_eq_true rfl) ⟨by decide, by decide⟩ ⟨by decide, by decide⟩ (fun x1 hf => ?_)
    refine pz_if_eq hC dX10_isWho_11 hf (fun _ hf => ?_) (fun _ hf => ?_)
    · refine pz_iconst (v := (0 : Int32)) hC dX10_isWho_18 (by decide) ?_
      refine pz_sub [] rfl ?_
      exact tX10_isWho_19 hC hK hf
    · refine pz_sub [] rfl ?_
      exact tX10_isWho_14 hC hK hf
def fX10_sumOf_6b (k6 : pz_H → Nat → Int32 → Int32 → Int64 → Int32 → Option (Int64 × pz_H)) (f : pz_H) (l0 : Nat) (l1 : Int32) (l3 : Int32) (l4 : Int64) (l6 : Int32) : Option (Int64 × pz_H) :=
  if l3 ≤ l6 then some (l4, f) else
  (fnX10_paidTo f l0 l6 l1).bind fun x1 =>
  k6 x1.2 l0 l1 l3 ((l4 + x1.1)) ((l6 + 1))
theorem tX10_sumOf_6b {G : pz_G} {C : pz_C} {f : pz_H} {k6 : pz_H → Nat → Int32 → Int32 → Int64 → Int32 → Option (Int64 × pz_H)} {l0 : Nat} {l1 : Int32} {l3 : Int32} {l4 : Int64} {l6 : Int32} {r : (Int64 × pz_H)} (hC : pz_OK G C cX10_sumOf 7 RX10) (hK : pz_K C (some .long) 10 232 0 0) (hk6 : ∀ (g : pz_H) (a0 : Nat) (a1 : Int32) (a3 : Int32) (a4 : Int64) (a6 : Int32), k6 g a0 a1 a3 a4 a6 = some r → pz_W G C 7 6 [(0, .ref a0), (1, .int a1), (3, .int a3), (4, .long a4), (6, .int a6)] [] g 0 0 (pz_Q G C (some (.long r.1)) r.2 0 0)) (hf : fX10_sumOf_6b k6 f l0 l1 l3 l4 l6 = some r) : pz_W G C 7 6 [(0, .ref l0), (1, .int l1), (3, .int l3), (4, .long l4), (6, .int l6)] [] f 0 0 (pz_Q G C (some (.long r.1)) r.2 0 0) := by
  unfold fX10_sumOf_6b at hf
  refine pz_iload hC dX10_sumOf_6 4 rfl ?_
  refine pz_iload_n hC dX10_sumOf_8 2 rfl ?_
  refine pz_icmp_ge hC dX10_sumOf_9 hf (fun _ hf => ?_) (fun _ hf => ?_)
  · refine pz_lload hC dX10_sumOf_30 3 rfl ?_
    exact pz_lretw hC hK dX10_sumOf_32 hf
  · refine pz_lload hC dX10_sumOf_12 3 rfl ?_
    refine pz_aload_n hC dX10_sumOf_14 0 rfl ?_
    refine pz_iload hC dX10_sumOf_15 4 rfl ?_
    refine pz_iload_n hC dX10_sumOf_17 1 rfl ?_
    refine pz_Vlw (As := [.int l6, .int l1]) hC hK dX10_sumOf_18 py_X10_paidTo pv_X10_paidTo lk_X10_152 hf (fun _ h => mX10_paidTo h) rfl rfl (Nat.le_of_ble_eq_true rfl) ⟨by decide, by decide⟩ ⟨by decide, by decide⟩ (fun x1 hf => ?_)
    refine pz_ladd hC dX10_sumOf_21 ?_
    refine pz_lstore hC dX10_sumOf_22 (by decide) rfl ?_
    refine pz_iinc (v := (l6 + 1)) hC dX10_sumOf_24 4 rfl rfl (by decide) rfl ?_
    refine pz_goto hC dX10_sumOf_27 ?_
    refine pz_sub [2, 3, 4, 1, 0] rfl ?_
    exact hk6 _ _ _ _ _ _ hf
def fX10_sumOf_6 : Nat → pz_H → Nat → Int32 → Int32 → Int64 → Int32 → Option (Int64 × pz_H)
  | 0, _, _, _, _, _, _ => none
  | n + 1, f, l0, l1, l3, l4, l6 => fX10_sumOf_6b (fX10_sumOf_6 n) f l0 l1 l3 l4 l6
theorem tX10_sumOf_6 {G : pz_G} {C : pz_C} {r : (Int64 × pz_H)} (hC : pz_OK G C cX10_sumOf 7 RX10) (hK : pz_K C (some .long) 10 232 0 0) : ∀ (N : Nat) (f : pz_H) (l0 : Nat) (l1 : Int32) (l3 : Int32) (l4 : Int64) (l6 : Int32), fX10_sumOf_6 N f l0 l1 l3 l4 l6 = some r → pz_W G C 7 6 [(0, .ref l0), (1, .int l1), (3, .int l3), (4, .long l4), (6, .int l6)] [] f 0 0 (pz_Q G C (some (.long r.1)) r.2 0 0) := by
  intro N
  induction N with
  | zero => intro f l0 l1 l3 l4 l6 hf; cases hf
  | succ N ih => intro f l0 l1 l3 l4 l6 hf; exact tX10_sumOf_6b hC hK (fun f l0 l1 l3 l4 l6 hf => ih f l0 l1 l3 l4 l6 hf) hf
def fnX10_sumOf (f : pz_H) (a0 : Nat) (p1 : Int32) (p2 : Int32) (p3 : Int32) : Option (Int64 × pz_H) :=
  (pz_is f a0 9).bind fun _ =>
  fX10_sumOf_6 pz_F f a0 p1 p3 ((0 : Int64)) p2
theorem mX10_sumOf {l : Launch} {G : pz_G} {f : pz_H} {a0 : Nat} {p1 : Int32} {p2 : Int32} {p3 : Int32} {r : (Int64 × pz_H)} (hf : fnX10_sumOf f a0 p1 p2 p3 = some r) : pz_Met l G yX10_sumOf cX10_sumOf 7 (some .long) 10 232 0 0 [.ref a0, .int p1, .int p2, .int p3] f (some (.long r.1)) r.2 ∧ pz_is f a0 9 = some () := by
  unfold fnX10_sumOf at hf
  obtain ⟨_, h0, hf⟩ := pz_bd hf
  refine ⟨pz_enter (by decide +kernel) (Nat.le_of_ble_eq_true rfl) (fun C hl hC hK hnm => ?_), h0⟩
  subst hl
  refine pz_sub (lv' := [(0, .ref a0), (1, .int p1), (2, .int p2), (3, .int p3)]) [0, 1, 2, 3] rfl ?_
  refine pz_lconst (v := 0) hC dX10_sumOf_0 (by decide) ?_
  refine pz_lstore hC dX10_sumOf_1 (by decide) rfl ?_
  refine pz_iload_n hC dX10_sumOf_3 3 rfl ?_
  refine pz_istore hC dX10_sumOf_4 (by decide) rfl ?_
  refine pz_sub [2, 3, 5, 1, 0] rfl ?_
  exact tX10_sumOf_6 hC hK _ _ _ _ _ _ _ hf
def fX10_paid_26 (f : pz_H) : Option (Int64 × pz_H) :=
  some (((-1000000000000000) : Int64), f)
theorem tX10_paid_26 {G : pz_G} {C : pz_C} {f : pz_H} {r : (Int64 × pz_H)} (hC : pz_OK G C cX10_paid 3 RX10) (hK : pz_K C (some .long) 10 232 0 0) (hf : fX10_paid_26 f = some r) : pz_W G C 3 26 [] [] f 0 0 (pz_Q G C (some (.long r.1)) r.2 0 0) := by
  unfold fX10_paid_26 at hf
  refine pz_ldc2 hC dX10_paid_26 ck_X10_161 ?_
  exact pz_lretw hC hK dX10_paid_29 hf
def fX10_paid_30 (f : pz_H) (l0 : Nat) (l1 : Int32) (l2 : Int32) : Option (Int64 × pz_H) :=
  (fnX10_laysOwns f l0).bind fun x1 =>
  (fnX10_paidTo x1 l0 l1 l2).bind fun x2 =>
  some (x2.1, x2.2)
theorem tX10_paid_30 {G : pz_G} {C : pz_C} {f : pz_H} {l0 : Nat} {l1 : Int32} {l2 : Int32} {r : (Int64 × pz_H)} (hC : pz_OK G C cX10_paid 3 RX10) (hK : pz_K C (some .long) 10 232 0 0) (hf : fX10_paid_30 f l0 l1 l2 = some r) : pz_W G C 3 30 [(0, .ref l0), (1, .int l1), (2, .int l2)] [] f 0 0 (pz_Q G C (some (.long r.1)) r.2 0 0) := by
  unfold fX10_paid_30 at hf
  refine pz_aload_n hC dX10_paid_30 0 rfl ?_
  refine pz_Vv (As := []) hC hK dX10_paid_31 py_X10_laysOwns pv_X10_laysOwns lk_X10_163 hf (fun _ h => mX10_laysOwns h) rfl rfl (Nat.le_of_ble_eq_true rfl) ⟨by decide, by decide⟩ ⟨by decide, by decide⟩ (fun x1 hf => ?_)
  refine pz_aload_n hC dX10_paid_34 0 rfl ?_
  refine pz_iload_n hC dX10_paid_35 1 rfl ?_
  refine pz_iload_n hC dX10_paid_36 2 rfl ?_
  refine pz_Vlw (As := [.int l1, .int l2]) hC hK dX10_paid_37 py_X10_paidTo pv_X10_paidTo lk_X10_152 hf (fun _ h => mX10_paidTo h) rfl rfl (Nat.le_of_ble_eq_true rfl) ⟨by decide, by decide⟩ ⟨by decide, by decide⟩ (fun x2 hf => ?_)
  exact pz_lretw hC hK dX10_paid_40 hf
def fnX10_paid (f : pz_H) (a0 : Nat) (p1 : Int32) (p2 : Int32) : Option (Int64 × pz_H) :=
  (pz_is f a0 9).bind fun _ =>
  (pz_sV f a0 9 0 (.int (0 : Int32))).bind fun f1 =>
  (fnX10_isMonth p1).bind fun x2 =>
  if x2 = 0 then fX10_paid_26 f1 else
  (fnX10_isWho f1 a0 p2).bind fun x3 =>
  if x3 = 0 then if p2 = (11 : Int32) then fX10_paid_30 f1 a0 p1 p2 else
  fX10_paid_26 f1 else
  fX10_paid_30 f1 a0 p1 p2
theorem mX10_paid {l : Launch} {G : pz_G} {f : pz_H} {a0 : Nat} {p1 : Int32} {p2 : Int32} {r : (Int64 × pz_H)} (hf : fnX10_paid f a0 p1 p2 = some r) : pz_Met l G yX10_paid cX10_paid 3 (some .long) 10 232 0 0 [.ref a0, .int p1, .int p2] f (some (.long r.1)) r.2 ∧ pz_is f a0 9 = some () := by
  unfold fnX10_paid at hf
  obtain ⟨_, h0, hf⟩ := pz_bd hf
  refine ⟨pz_enter (by decide +kernel) (Nat.le_of_ble_eq_true rfl) (fun C hl hC hK hnm => ?_), h0⟩
  subst hl
  refine pz_sub (lv' := [(0, .ref a0), (1, .int p1), (2, .int p2)]) [0, 1, 2] rfl ?_
  refine pz_aload_n hC dX10_paid_0 0 rfl ?_
  refine pz_iconst (v := (0 : Int32)) hC dX10_paid_1 (by decide) ?_
  refine pz_putV hC dX10_paid_2 fp_X10_48 rfl rfl hf (fun f1 hf => ?_)
  refine pz_iload_n hC dX10_paid_5 1 rfl ?_
  refine pz_Si (As := [.int p1]) hC hK dX10_paid_6 py_X10_isMonth ps_X10_isMonth lk_X10_155 hf (fun _ h => mX10_isMonth h) rfl rfl (Nat.le_of_ble_eq_true rfl) ⟨by decide, by decide⟩ ⟨by decide, by decide⟩ (fun x2 hf => ?_)
  refine pz_if_eq hC dX10_paid_9 hf (fun _ hf => ?_) (fun _ hf => ?_)
  · refine pz_sub [] rfl ?_
    exact tX10_paid_26 hC hK hf
  · refine pz_aload_n hC dX10_paid_12 0 rfl ?_
    refine pz_iload_n hC dX10_paid_13 2 rfl ?_
    refine pz_Vi (As := [.int p2]) hC hK dX10_paid_14 py_X10_isWho pv_X10_isWho lk_X10_158 hf (fun _ h => mX10_isWho h) rfl rfl (Nat.le_of_ble_eq_true rfl) ⟨by decide, by decide⟩ ⟨by decide, by decide⟩ (fun x3 hf => ?_)
    refine pz_if_ne hC dX10_paid_17 hf (fun _ hf => ?_) (fun _ hf => ?_)
    · exact tX10_paid_30 hC hK hf
    · refine pz_iload_n hC dX10_paid_20 2 rfl ?_
      refine pz_bipush (v := (11 : Int32)) hC dX10_paid_21 (by decide) ?_
      refine pz_icmp_eq hC dX10_paid_23 hf (fun _ hf => ?_) (fun _ hf => ?_)
      · exact tX10_paid_30 hC hK hf
      · refine pz_sub [] rfl ?_
        exact tX10_paid_26 hC hK hf
def fX10_sum_38 (f : pz_H) : Option (Int64 × pz_H) :=
  some (((-1000000000000000) : Int64), f)
theorem tX10_sum_38 {G : pz_G} {C : pz_C} {f : pz_H} {r : (Int64 × pz_H)} (hC : pz_OK G C cX10_sum 4 RX10) (hK : pz_K C (some .long) 11 258 0 0) (hf : fX10_sum_38 f = some r) : pz_W G C 4 38 [] [] f 0 0 (pz_Q G C (some (.long r.1)) r.2 0 0) := by
  unfold fX10_sum_38 at hf
  refine pz_ldc2 hC dX10_sum_38 ck_X10_161 ?_
  exact pz_lretw hC hK dX10_sum_41 hf
def fX10_sum_19 (f : pz_H) (l0 : Nat) (l1 : Int32) (l2 : Int32) (l3 : Int32) : Option (Int64 × pz_H) :=
  (fnX10_isMonth l2).bind fun x1 =>
  if x1 = 0 then fX10_sum_38 f else
  (fnX10_isMonth l3).bind fun x2 =>
  if x2 = 0 then fX10_sum_38 f else
  if l2 ≤ l3 then (fnX10_laysOwns f l0).bind fun x3 =>
  (fnX10_sumOf x3 l0 l1 l2 l3).bind fun x4 =>
  some (x4.1, x4.2) else
  fX10_sum_38 f
theorem tX10_sum_19 {G : pz_G} {C : pz_C} {f : pz_H} {l0 : Nat} {l1 : Int32} {l2 : Int32} {l3 : Int32} {r : (Int64 × pz_H)} (hC : pz_OK G C cX10_sum 4 RX10) (hK : pz_K C (some .long) 11 258 0 0) (hf : fX10_sum_19 f l0 l1 l2 l3 = some r) : pz_W G C 4 19 [(0, .ref l0), (1, .int l1), (2, .int l2), (3, .int l3)] [] f 0 0 (pz_Q G C (some (.long r.1)) r.2 0 0) := by
  unfold fX10_sum_19 at hf
  refine pz_iload_n hC dX10_sum_19 2 rfl ?_
  refine pz_Si (As := [.int l2]) hC hK dX10_sum_20 py_X10_isMonth ps_X10_isMonth lk_X10_155 hf (fun _ h => mX10_isMonth h) rfl rfl (Nat.le_of_ble_eq_true rfl) ⟨by decide, by decide⟩ ⟨by decide, by decide⟩ (fun x1 hf => ?_)
  refine pz_if_eq hC dX10_sum_23 hf (fun _ hf => ?_) (fun _ hf => ?_)
  · refine pz_sub [] rfl ?_
    exact tX10_sum_38 hC hK hf
  · refine pz_iload_n hC dX10_sum_26 3 rfl ?_
    refine pz_Si (As := [.int l3]) hC hK dX10_sum_27 py_X10_isMonth ps_X10_isMonth lk_X10_155 hf (fun _ h => mX10_isMonth h) rfl rfl (Nat.le_of_ble_eq_true rfl) ⟨by decide, by decide⟩ ⟨by decide, by decide⟩ (fun x2 hf => ?_)
    refine pz_if_eq hC dX10_sum_30 hf (fun _ hf => ?_) (fun _ hf => ?_)
    · refine pz_sub [] rfl ?_
      exact tX10_sum_38 hC hK hf
    · refine pz_iload_n hC dX10_sum_33 2 rfl ?_
      refine pz_iload_n hC dX10_sum_34 3 rfl ?_
      refine pz_icmp_le hC dX10_sum_35 hf (fun _ hf => ?_) (fun _ hf => ?_)
      · refine pz_aload_n hC dX10_sum_42 0 rfl ?_
        refine pz_Vv (As := []) hC hK dX10_sum_43 py_X10_laysOwns pv_X10_laysOwns lk_X10_163 hf (fun _ h => mX10_laysOwns h) rfl rfl (Nat.le_of_ble_eq_true rfl) ⟨by decide, by decide⟩ ⟨by decide, by decide⟩ (fun x3 hf => ?_)
        refine pz_aload_n hC dX10_sum_46 0 rfl ?_
        refine pz_iload_n hC dX10_sum_47 1 rfl ?_
        refine pz_iload_n hC dX10_sum_48 2 rfl ?_
        refine pz_iload_n hC dX10_sum_49 3 rfl ?_
        refine pz_Vlw (As := [.int l1, .int l2, .int l3]) hC hK dX10_sum_50 py_X10_sumOf pv_X10_sumOf lk_X10_166 hf (fun _ h => mX10_sumOf h) rfl rfl (Nat.le_of_ble_eq_true rfl) ⟨by decide, by decide⟩ ⟨by decide, by decide⟩ (fun x4 hf => ?_)
        exact pz_lretw hC hK dX10_sum_53 hf
      · refine pz_sub [] rfl ?_
        exact tX10_sum_38 hC hK hf
def fnX10_sum (f : pz_H) (a0 : Nat) (p1 : Int32) (p2 : Int32) (p3 : Int32) : Option (Int64 × pz_H) :=
  (pz_is f a0 9).bind fun _ =>
  (pz_sV f a0 9 0 (.int (0 : Int32))).bind fun f1 =>
  (fnX10_isWho f1 a0 p1).bind fun x2 =>
  if x2 = 0 then if p1 = (11 : Int32) then fX10_sum_19 f1 a0 p1 p2 p3 else
  fX10_sum_38 f1 else
  fX10_sum_19 f1 a0 p1 p2 p3
theorem mX10_sum {l : Launch} {G : pz_G} {f : pz_H} {a0 : Nat} {p1 : Int32} {p2 : Int32} {p3 : Int32} {r : (Int64 × pz_H)} (hf : fnX10_sum f a0 p1 p2 p3 = some r) : pz_Met l G yX10_sum cX10_sum 4 (some .long) 11 258 0 0 [.ref a0, .int p1, .int p2, .int p3] f (some (.long r.1)) r.2 ∧ pz_is f a0 9 = some () := by
  unfold fnX10_sum at hf
  obtain ⟨_, h0, hf⟩ := pz_bd hf
  refine ⟨pz_enter (by decide +kernel) (Nat.le_of_ble_eq_true rfl) (fun C hl hC hK hnm => ?_), h0⟩
  subst hl
  refine pz_sub (lv' := [(0, .ref a0), (1, .int p1), (2, .int p2), (3, .int p3)]) [0, 1, 2, 3] rfl ?_
  refine pz_aload_n hC dX10_sum_0 0 rfl ?_
  refine pz_iconst (v := (0 : Int32)) hC dX10_sum_1 (by decide) ?_
  refine pz_putV hC dX10_sum_2 fp_X10_48 rfl rfl hf (fun f1 hf => ?_)
  refine pz_aload_n hC dX10_sum_5 0 rfl ?_
  refine pz_iload_n hC dX10_sum_6 1 rfl ?_
  refine pz_Vi (As := [.int p1]) hC hK dX10_sum_7 py_X10_isWho pv_X10_isWho lk_X10_158 hf (fun _ h => mX10_isWho h) rfl rfl (Nat.le_of_ble_eq_true rfl) ⟨by decide, by decide⟩ ⟨by decide, by decide⟩ (fun x2 hf => ?_)
  refine pz_if_ne hC dX10_sum_10 hf (fun _ hf => ?_) (fun _ hf => ?_)
  · exact tX10_sum_19 hC hK hf
  · refine pz_iload_n hC dX10_sum_13 1 rfl ?_
    refine pz_bipush (v := (11 : Int32)) hC dX10_sum_14 (by decide) ?_
    refine pz_icmp_ne hC dX10_sum_16 hf (fun _ hf => ?_) (fun _ hf => ?_)
    · refine pz_sub [] rfl ?_
      exact tX10_sum_38 hC hK hf
    · exact tX10_sum_19 hC hK hf
def fX10_richest_81 (k33 : pz_H → Nat → Int32 → Int32 → Int64 → Int32 → Option (Int32 × pz_H)) (f : pz_H) (l0 : Nat) (l1 : Int32) (l2 : Int32) (l5 : Int32) (s0 : Int64) : Option (Int32 × pz_H) :=
  k33 f l0 l1 l2 s0 ((l5 + 1))
theorem tX10_richest_81 {G : pz_G} {C : pz_C} {f : pz_H} {k33 : pz_H → Nat → Int32 → Int32 → Int64 → Int32 → Option (Int32 × pz_H)} {l0 : Nat} {l1 : Int32} {l2 : Int32} {l5 : Int32} {s0 : Int64} {r : (Int32 × pz_H)} (hC : pz_OK G C cX10_richest 8 RX10) (hK : pz_K C (some .int) 11 258 0 0) (hk33 : ∀ (g : pz_H) (a0 : Nat) (a1 : Int32) (a2 : Int32) (a3 : Int64) (a5 : Int32), k33 g a0 a1 a2 a3 a5 = some r → pz_W G C 8 33 [(0, .ref a0), (1, .int a1), (2, .int a2), (3, .long a3), (5, .int a5)] [] g 0 0 (pz_Q G C (some (.int r.1)) r.2 0 0)) (hf : fX10_richest_81 k33 f l0 l1 l2 l5 s0 = some r) : pz_W G C 8 81 [(0, .ref l0), (1, .int l1), (2, .int l2), (5, .int l5)] [.long s0] f 0 0 (pz_Q G C (some (.int r.1)) r.2 0 0) := by
  unfold fX10_richest_81 at hf
  refine pz_lstore_n hC dX10_richest_81 (by decide) rfl ?_
  refine pz_iinc (v := (l5 + 1)) hC dX10_richest_82 4 rfl rfl (by decide) rfl ?_
  refine pz_goto hC dX10_richest_85 ?_
  refine pz_sub [2, 3, 4, 1, 0] rfl ?_
  exact hk33 _ _ _ _ _ _ hf
def fX10_richest_67 (k33 : pz_H → Nat → Int32 → Int32 → Int64 → Int32 → Option (Int32 × pz_H)) (f : pz_H) (l0 : Nat) (l1 : Int32) (l3 : Int64) (l5 : Int32) (l6 : Int64) (s0 : Int32) : Option (Int32 × pz_H) :=
  if (lg_cmp l6 l3) ≤ 0 then fX10_richest_81 k33 f l0 l1 s0 l5 l3 else
  fX10_richest_81 k33 f l0 l1 s0 l5 l6
theorem tX10_richest_67 {G : pz_G} {C : pz_C} {f : pz_H} {k33 : pz_H → Nat → Int32 → Int32 → Int64 → Int32 → Option (Int32 × pz_H)} {l0 : Nat} {l1 : Int32} {l3 : Int64} {l5 : Int32} {l6 : Int64} {s0 : Int32} {r : (Int32 × pz_H)} (hC : pz_OK G C cX10_richest 8 RX10) (hK : pz_K C (some .int) 11 258 0 0) (hk33 : ∀ (g : pz_H) (a0 : Nat) (a1 : Int32) (a2 : Int32) (a3 : Int64) (a5 : Int32), k33 g a0 a1 a2 a3 a5 = some r → pz_W G C 8 33 [(0, .ref a0), (1, .int a1), (2, .int a2), (3, .long a3), (5, .int a5)] [] g 0 0 (pz_Q G C (some (.int r.1)) r.2 0 0)) (hf : fX10_richest_67 k33 f l0 l1 l3 l5 l6 s0 = some r) : pz_W G C 8 67 [(0, .ref l0), (1, .int l1), (3, .long l3), (5, .int l5), (6, .long l6)] [.int s0] f 0 0 (pz_Q G C (some (.int r.1)) r.2 0 0) := by
  unfold fX10_richest_67 at hf
  refine pz_istore_n hC dX10_richest_67 (by decide) rfl ?_
  refine pz_lload hC dX10_richest_68 5 rfl ?_
  refine pz_lload_n hC dX10_richest_70 3 rfl ?_
  refine pz_lcmp hC dX10_richest_71 ?_
  refine pz_if_le hC dX10_richest_72 hf (fun _ hf => ?_) (fun _ hf => ?_)
  · refine pz_lload_n hC dX10_richest_80 3 rfl ?_
    refine pz_sub [1, 2, 0, 4] rfl ?_
    exact tX10_richest_81 hC hK hk33 hf
  · refine pz_lload hC dX10_richest_75 5 rfl ?_
    refine pz_goto hC dX10_richest_77 ?_
    refine pz_sub [1, 2, 0, 4] rfl ?_
    exact tX10_richest_81 hC hK hk33 hf
def fX10_richest_33b (k33 : pz_H → Nat → Int32 → Int32 → Int64 → Int32 → Option (Int32 × pz_H)) (f : pz_H) (l0 : Nat) (l1 : Int32) (l2 : Int32) (l3 : Int64) (l5 : Int32) : Option (Int32 × pz_H) :=
  (pz_gR f l0 9 1).bind fun v1 =>
  (pz_aI f v1 0 ((4 : Int32))).bind fun v2 =>
  if v2 ≤ l5 then some (l2, f) else
  (fnX10_sumOf f l0 l5 ((0 : Int32)) l1).bind fun x3 =>
  if (lg_cmp x3.1 l3) ≤ 0 then fX10_richest_67 k33 x3.2 l0 l1 l3 l5 x3.1 l2 else
  fX10_richest_67 k33 x3.2 l0 l1 l3 l5 x3.1 l5
theorem tX10_richest_33b {G : pz_G} {C : pz_C} {f : pz_H} {k33 : pz_H → Nat → Int32 → Int32 → Int64 → Int32 → Option (Int32 × pz_H)} {l0 : Nat} {l1 : Int32} {l2 : Int32} {l3 : Int64} {l5 : Int32} {r : (Int32 × pz_H)} (hC : pz_OK G C cX10_richest 8 RX10) (hK : pz_K C (some .int) 11 258 0 0) (hk33 : ∀ (g : pz_H) (a0 : Nat) (a1 : Int32) (a2 : Int32) (a3 : Int64) (a5 : Int32), k33 g a0 a1 a2 a3 a5 = some r → pz_W G C 8 33 [(0, .ref a0), (1, .int a1), (2, .int a2), (3, .long a3), (5, .int a5)] [] g 0 0 (pz_Q G C (some (.int r.1)) r.2 0 0)) (hf : fX10_richest_33b k33 f l0 l1 l2 l3 l5 = some r) : pz_W G C 8 33 [(0, .ref l0), (1, .int l1), (2, .int l2), (3, .long l3), (5, .int l5)] [] f 0 0 (pz_Q G C (some (.int r.1)) r.2 0 0) := by
  unfold fX10_richest_33b at hf
  refine pz_iload hC dX10_richest_33 4 rfl ?_
  refine pz_aload_n hC dX10_richest_35 0 rfl ?_
  refine pz_getR hC dX10_richest_36 fa_X10_7 hf (fun v1 hf => ?_)
  refine pz_iconst (v := (4 : Int32)) hC dX10_richest_39 (by decide) ?_
  refine pz_iald hC dX10_richest_40 hf (fun v2 hf => ?_)
  refine pz_icmp_ge hC dX10_richest_41 hf (fun _ hf => ?_) (fun _ hf => ?_)
  · refine pz_iload_n hC dX10_richest_88 2 rfl ?_
    exact pz_iretw hC hK dX10_richest_89 hf
  · refine pz_aload_n hC dX10_richest_44 0 rfl ?_
    refine pz_iload hC dX10_richest_45 4 rfl ?_
    refine pz_iconst (v := (0 : Int32)) hC dX10_richest_47 (by decide) ?_
    refine pz_iload_n hC dX10_richest_48 1 rfl ?_
    refine pz_Vlw (As := [.int l5, .int (0 : Int32), .int l1]) hC hK dX10_richest_49 py_X10_sumOf pv_X10_sumOf lk_X10_166 hf (fun _ h => mX10_sumOf h) rfl rfl (Nat.le_of_ble_eq_true rfl) ⟨by decide, by decide⟩ ⟨by decide, by decide⟩ (fun x3 hf => ?_)
    refine pz_lstore hC dX10_richest_52 (by decide) rfl ?_
    refine pz_lload hC dX10_richest_54 0 rfl ?_
    refine pz_lload_n hC dX10_richest_56 4 rfl ?_
    refine pz_lcmp hC dX10_richest_57 ?_
    refine pz_if_le hC dX10_richest_58 hf (fun _ hf => ?_) (fun _ hf => ?_)
    · refine pz_iload_n hC dX10_richest_66 3 rfl ?_
      refine pz_sub [1, 2, 4, 5, 0] rfl ?_
      exact tX10_richest_67 hC hK hk33 hf
    · refine pz_iload hC dX10_richest_61 5 rfl ?_
      refine pz_goto hC dX10_richest_63 ?_
      refine pz_sub [1, 2, 4, 5, 0] rfl ?_
      exact tX10_richest_67 hC hK hk33 hf
def fX10_richest_33 : Nat → pz_H → Nat → Int32 → Int32 → Int64 → Int32 → Option (Int32 × pz_H)
  | 0, _, _, _, _, _, _ => none
  | n + 1, f, l0, l1, l2, l3, l5 => fX10_richest_33b (fX10_richest_33 n) f l0 l1 l2 l3 l5
theorem tX10_richest_33 {G : pz_G} {C : pz_C} {r : (Int32 × pz_H)} (hC : pz_OK G C cX10_richest 8 RX10) (hK : pz_K C (some .int) 11 258 0 0) : ∀ (N : Nat) (f : pz_H) (l0 : Nat) (l1 : Int32) (l2 : Int32) (l3 : Int64) (l5 : Int32), fX10_richest_33 N f l0 l1 l2 l3 l5 = some r → pz_W G C 8 33 [(0, .ref l0), (1, .int l1), (2, .int l2), (3, .long l3), (5, .int l5)] [] f 0 0 (pz_Q G C (some (.int r.1)) r.2 0 0) := by
  intro N
  induction N with
  | zero => intro f l0 l1 l2 l3 l5 hf; cases hf
  | succ N ih => intro f l0 l1 l2 l3 l5 hf; exact tX10_richest_33b hC hK (fun f l0 l1 l2 l3 l5 hf => ih f l0 l1 l2 l3 l5 hf) hf
def fnX10_richest (f : pz_H) (a0 : Nat) (p1 : Int32) : Option (Int32 × pz_H) :=
  (pz_is f a0 9).bind fun _ =>
  (pz_sV f a0 9 0 (.int (0 : Int32))).bind fun f1 =>
  (fnX10_isMonth p1).bind fun x2 =>
  if x2 = 0 then some (((-1) : Int32), f1) else
  (fnX10_laysOwns f1 a0).bind fun x3 =>
  (fnX10_sumOf x3 a0 ((10 : Int32)) ((0 : Int32)) p1).bind fun x4 =>
  fX10_richest_33 pz_F x4.2 a0 p1 ((10 : Int32)) x4.1 ((0 : Int32))
theorem mX10_richest {l : Launch} {G : pz_G} {f : pz_H} {a0 : Nat} {p1 : Int32} {r : (Int32 × pz_H)} (hf : fnX10_richest f a0 p1 = some r) : pz_Met l G yX10_richest cX10_richest 8 (some .int) 11 258 0 0 [.ref a0, .int p1] f (some (.int r.1)) r.2 ∧ pz_is f a0 9 = some () := by
  unfold fnX10_richest at hf
  obtain ⟨_, h0, hf⟩ := pz_bd hf
  refine ⟨pz_enter (by decide +kernel) (Nat.le_of_ble_eq_true rfl) (fun C hl hC hK hnm => ?_), h0⟩
  subst hl
  refine pz_sub (lv' := [(0, .ref a0), (1, .int p1)]) [0, 1] rfl ?_
  refine pz_aload_n hC dX10_richest_0 0 rfl ?_
  refine pz_iconst (v := (0 : Int32)) hC dX10_richest_1 (by decide) ?_
  refine pz_putV hC dX10_richest_2 fp_X10_48 rfl rfl hf (fun f1 hf => ?_)
  refine pz_iload_n hC dX10_richest_5 1 rfl ?_
  refine pz_Si (As := [.int p1]) hC hK dX10_richest_6 py_X10_isMonth ps_X10_isMonth lk_X10_155 hf (fun _ h => mX10_isMonth h) rfl rfl (Nat.le_of_ble_eq_true rfl) ⟨by decide, by decide⟩ ⟨by decide, by decide⟩ (fun x2 hf => ?_)
  refine pz_if_ne hC dX10_richest_9 hf (fun _ hf => ?_) (fun _ hf => ?_)
  · refine pz_aload_n hC dX10_richest_14 0 rfl ?_
    refine pz_Vv (As := []) hC hK dX10_richest_15 py_X10_laysOwns pv_X10_laysOwns lk_X10_163 hf (fun _ h => mX10_laysOwns h) rfl rfl (Nat.le_of_ble_eq_true rfl) ⟨by decide, by decide⟩ ⟨by decide, by decide⟩ (fun x3 hf => ?_)
    refine pz_bipush (v := (10 : Int32)) hC dX10_richest_18 (by decide) ?_
    refine pz_istore_n hC dX10_richest_20 (by decide) rfl ?_
    refine pz_aload_n hC dX10_richest_21 1 rfl ?_
    refine pz_bipush (v := (10 : Int32)) hC dX10_richest_22 (by decide) ?_
    refine pz_iconst (v := (0 : Int32)) hC dX10_richest_24 (by decide) ?_
    refine pz_iload_n hC dX10_richest_25 2 rfl ?_
    refine pz_Vlw (As := [.int (10 : Int32), .int (0 : Int32), .int p1]) hC hK dX10_richest_26 py_X10_sumOf pv_X10_sumOf lk_X10_166 hf (fun _ h => mX10_sumOf h) rfl rfl (Nat.le_of_ble_eq_true rfl) ⟨by decide, by decide⟩ ⟨by decide, by decide⟩ (fun x4 hf => ?_)
    refine pz_lstore_n hC dX10_richest_29 (by decide) rfl ?_
    refine pz_iconst (v := (0 : Int32)) hC dX10_richest_30 (by decide) ?_
    refine pz_istore hC dX10_richest_31 (by decide) rfl ?_
    refine pz_sub [3, 4, 2, 1, 0] rfl ?_
    exact tX10_richest_33 hC hK _ _ _ _ _ _ _ hf
  · refine pz_iconst (v := ((-1) : Int32)) hC dX10_richest_12 (by decide) ?_
    exact pz_iretw hC hK dX10_richest_13 hf
def fX10_crosses_21 (f : pz_H) : Option (Int32 × pz_H) :=
  some (((-1) : Int32), f)
theorem tX10_crosses_21 {G : pz_G} {C : pz_C} {f : pz_H} {r : (Int32 × pz_H)} (hC : pz_OK G C cX10_crosses 7 RX10) (hK : pz_K C (some .int) 10 230 0 0) (hf : fX10_crosses_21 f = some r) : pz_W G C 7 21 [] [] f 0 0 (pz_Q G C (some (.int r.1)) r.2 0 0) := by
  unfold fX10_crosses_21 at hf
  refine pz_iconst (v := ((-1) : Int32)) hC dX10_crosses_21 (by decide) ?_
  exact pz_iretw hC hK dX10_crosses_22 hf
def fX10_crosses_35b (k35 : pz_H → Nat → Int32 → Int64 → Int64 → Int32 → Option (Int32 × pz_H)) (f : pz_H) (l0 : Nat) (l1 : Int32) (l2 : Int64) (l4 : Int64) (l6 : Int32) : Option (Int32 × pz_H) :=
  if (1800 : Int32) ≤ l6 then some (((-1) : Int32), f) else
  (fnX10_its f l0 l1 ((4 : Int32))).bind fun x1 =>
  (fnX10_paidBy f l0 l1 l6 x1).bind fun x2 =>
  (fnX10_its x2.2 l0 l1 ((4 : Int32))).bind fun x3 =>
  (fnX10_paidBy x2.2 l0 l1 l6 (((1 : Int32) - x3))).bind fun x4 =>
  if (lg_cmp ((l4 + x4.1)) ((l2 + x2.1))) ≤ 0 then k35 x4.2 l0 l1 ((l2 + x2.1)) ((l4 + x4.1)) ((l6 + 1)) else
  some (l6, x4.2)
theorem tX10_crosses_35b {G : pz_G} {C : pz_C} {f : pz_H} {k35 : pz_H → Nat → Int32 → Int64 → Int64 → Int32 → Option (Int32 × pz_H)} {l0 : Nat} {l1 : Int32} {l2 : Int64} {l4 : Int64} {l6 : Int32} {r : (Int32 × pz_H)} (hC : pz_OK G C cX10_crosses 7 RX10) (hK : pz_K C (some .int) 10 230 0 0) (hk35 : ∀ (g : pz_H) (a0 : Nat) (a1 : Int32) (a2 : Int64) (a4 : Int64) (a6 : Int32), k35 g a0 a1 a2 a4 a6 = some r → pz_W G C 7 35 [(0, .ref a0), (1, .int a1), (2, .long a2), (4, .long a4), (6, .int a6)] [] g 0 0 (pz_Q G C (some (.int r.1)) r.2 0 0)) (hf : fX10_crosses_35b k35 f l0 l1 l2 l4 l6 = some r) : pz_W G C 7 35 [(0, .ref l0), (1, .int l1), (2, .long l2), (4, .long l4), (6, .int l6)] [] f 0 0 (pz_Q G C (some (.int r.1)) r.2 0 0) := by
  unfold fX10_crosses_35b at hf
  refine pz_iload hC dX10_crosses_35 4 rfl ?_
  refine pz_sipush (v := (1800 : Int32)) hC dX10_crosses_37 (by decide) ?_
  refine pz_icmp_ge hC dX10_crosses_40 hf (fun _ hf => ?_) (fun _ hf => ?_)
  · refine pz_iconst (v := ((-1) : Int32)) hC dX10_crosses_95 (by decide) ?_
    exact pz_iretw hC hK dX10_crosses_96 hf
  · refine pz_lload_n hC dX10_crosses_43 2 rfl ?_
    refine pz_aload_n hC dX10_crosses_44 0 rfl ?_
    refine pz_iload_n hC dX10_crosses_45 1 rfl ?_
    refine pz_iload hC dX10_crosses_46 4 rfl ?_
    refine pz_aload_n hC dX10_crosses_48 0 rfl ?_
    refine pz_iload_n hC dX10_crosses_49 1 rfl ?_
    refine pz_iconst (v := (4 : Int32)) hC dX10_crosses_50 (by decide) ?_
    refine pz_Vi (As := [.int l1, .int (4 : Int32)]) hC hK dX10_crosses_51 py_X10_its pv_X10_its lk_X10_56 hf (fun _ h => mX10_its h) rfl rfl (Nat.le_of_ble_eq_true rfl) ⟨by decide, by decide⟩ ⟨by decide, by decide⟩ (fun x1 hf => ?_)
    refine pz_Vlw (As := [.int l1, .int l6, .int x1]) hC hK dX10_crosses_54 py_X10_paidBy pv_X10_paidBy lk_X10_142 hf (fun _ h => mX10_paidBy h) rfl rfl (Nat.le_of_ble_eq_true rfl) ⟨by decide, by decide⟩ ⟨by decide, by decide⟩ (fun x2 hf => ?_)
    refine pz_ladd hC dX10_crosses_57 ?_
    refine pz_lstore_n hC dX10_crosses_58 (by decide) rfl ?_
    refine pz_lload hC dX10_crosses_59 3 rfl ?_
    refine pz_aload_n hC dX10_crosses_61 1 rfl ?_
    refine pz_iload_n hC dX10_crosses_62 2 rfl ?_
    refine pz_iload hC dX10_crosses_63 4 rfl ?_
    refine pz_iconst (v := (1 : Int32)) hC dX10_crosses_65 (by decide) ?_
    refine pz_aload_n hC dX10_crosses_66 1 rfl ?_
    refine pz_iload_n hC dX10_crosses_67 2 rfl ?_
    refine pz_iconst (v := (4 : Int32)) hC dX10_crosses_68 (by decide) ?_
    refine pz_Vi (As := [.int l1, .int (4 : Int32)]) hC hK dX10_crosses_69 py_X10_its pv_X10_its lk_X10_56 hf (fun _ h => mX10_its h) rfl rfl (Nat.le_of_ble_eq_true rfl) ⟨by decide, by decide⟩ ⟨by decide, by decide⟩ (fun x3 hf => ?_)
    refine pz_isub hC dX10_crosses_72 ?_
    refine pz_Vlw (As := [.int l1, .int l6, .int ((1 : Int32) - x3)]) hC hK dX10_crosses_73 py_X10_paidBy pv_X10_paidBy lk_X10_142 hf (fun _ h => mX10_paidBy h) rfl rfl (Nat.le_of_ble_eq_true rfl) ⟨by decide, by decide⟩ ⟨by decide, by decide⟩ (fun x4 hf => ?_)
    refine pz_ladd hC dX10_crosses_76 ?_
    refine pz_lstore hC dX10_crosses_77 (by decide) rfl ?_
    refine pz_lload hC dX10_crosses_79 0 rfl ?_
    refine pz_lload_n hC dX10_crosses_81 1 rfl ?_
    refine pz_lcmp hC dX10_crosses_82 ?_
    refine pz_if_le hC dX10_crosses_83 hf (fun _ hf => ?_) (fun _ hf => ?_)
    · refine pz_iinc (v := (l6 + 1)) hC dX10_crosses_89 4 rfl rfl (by decide) rfl ?_
      refine pz_goto hC dX10_crosses_92 ?_
      refine pz_sub [3, 4, 2, 1, 0] rfl ?_
      exact hk35 _ _ _ _ _ _ hf
    · refine pz_iload hC dX10_crosses_86 4 rfl ?_
      exact pz_iretw hC hK dX10_crosses_88 hf
def fX10_crosses_35 : Nat → pz_H → Nat → Int32 → Int64 → Int64 → Int32 → Option (Int32 × pz_H)
  | 0, _, _, _, _, _, _ => none
  | n + 1, f, l0, l1, l2, l4, l6 => fX10_crosses_35b (fX10_crosses_35 n) f l0 l1 l2 l4 l6
theorem tX10_crosses_35 {G : pz_G} {C : pz_C} {r : (Int32 × pz_H)} (hC : pz_OK G C cX10_crosses 7 RX10) (hK : pz_K C (some .int) 10 230 0 0) : ∀ (N : Nat) (f : pz_H) (l0 : Nat) (l1 : Int32) (l2 : Int64) (l4 : Int64) (l6 : Int32), fX10_crosses_35 N f l0 l1 l2 l4 l6 = some r → pz_W G C 7 35 [(0, .ref l0), (1, .int l1), (2, .long l2), (4, .long l4), (6, .int l6)] [] f 0 0 (pz_Q G C (some (.int r.1)) r.2 0 0) := by
  intro N
  induction N with
  | zero => intro f l0 l1 l2 l4 l6 hf; cases hf
  | succ N ih => intro f l0 l1 l2 l4 l6 hf; exact tX10_crosses_35b hC hK (fun f l0 l1 l2 l4 l6 hf => ih f l0 l1 l2 l4 l6 hf) hf
def fnX10_crosses (f : pz_H) (a0 : Nat) (p1 : Int32) : Option (Int32 × pz_H) :=
  (pz_is f a0 9).bind fun _ =>
  (pz_sV f a0 9 0 (.int (0 : Int32))).bind fun f1 =>
  (fnX10_isSpouse f1 a0 p1).bind fun x2 =>
  if x2 = 0 then fX10_crosses_21 f1 else
  (fnX10_isParted f1 a0 p1).bind fun x3 =>
  if x3 = 0 then fX10_crosses_21 f1 else
  (fnX10_laysOwns f1 a0).bind fun x4 =>
  fX10_crosses_35 pz_F x4 a0 p1 ((0 : Int64)) ((0 : Int64)) ((0 : Int32))
theorem mX10_crosses {l : Launch} {G : pz_G} {f : pz_H} {a0 : Nat} {p1 : Int32} {r : (Int32 × pz_H)} (hf : fnX10_crosses f a0 p1 = some r) : pz_Met l G yX10_crosses cX10_crosses 7 (some .int) 10 230 0 0 [.ref a0, .int p1] f (some (.int r.1)) r.2 ∧ pz_is f a0 9 = some () := by
  unfold fnX10_crosses at hf
  obtain ⟨_, h0, hf⟩ := pz_bd hf
  refine ⟨pz_enter (by decide +kernel) (Nat.le_of_ble_eq_true rfl) (fun C hl hC hK hnm => ?_), h0⟩
  subst hl
  refine pz_sub (lv' := [(0, .ref a0), (1, .int p1)]) [0, 1] rfl ?_
  refine pz_aload_n hC dX10_crosses_0 0 rfl ?_
  refine pz_iconst (v := (0 : Int32)) hC dX10_crosses_1 (by decide) ?_
  refine pz_putV hC dX10_crosses_2 fp_X10_48 rfl rfl hf (fun f1 hf => ?_)
  refine pz_aload_n hC dX10_crosses_5 0 rfl ?_
  refine pz_iload_n hC dX10_crosses_6 1 rfl ?_
  refine pz_Vi (As := [.int p1]) hC hK dX10_crosses_7 py_X10_isSpouse pv_X10_isSpouse lk_X10_149 hf (fun _ h => mX10_isSpouse h) rfl rfl (Nat.le_of_ble_eq_true rfl) ⟨by decide, by decide⟩ ⟨by decide, by decide⟩ (fun x2 hf => ?_)
  refine pz_if_eq hC dX10_crosses_10 hf (fun _ hf => ?_) (fun _ hf => ?_)
  · refine pz_sub [] rfl ?_
    exact tX10_crosses_21 hC hK hf
  · refine pz_aload_n hC dX10_crosses_13 0 rfl ?_
    refine pz_iload_n hC dX10_crosses_14 1 rfl ?_
    refine pz_Vi (As := [.int p1]) hC hK dX10_crosses_15 py_X10_isParted pv_X10_isParted lk_X10_91 hf (fun _ h => mX10_isParted h) rfl rfl (Nat.le_of_ble_eq_true rfl) ⟨by decide, by decide⟩ ⟨by decide, by decide⟩ (fun x3 hf => ?_)
    refine pz_if_ne hC dX10_crosses_18 hf (fun _ hf => ?_) (fun _ hf => ?_)
    · refine pz_aload_n hC dX10_crosses_23 0 rfl ?_
      refine pz_Vv (As := []) hC hK dX10_crosses_24 py_X10_laysOwns pv_X10_laysOwns lk_X10_163 hf (fun _ h => mX10_laysOwns h) rfl rfl (Nat.le_of_ble_eq_true rfl) ⟨by decide, by decide⟩ ⟨by decide, by decide⟩ (fun x4 hf => ?_)
      refine pz_lconst (v := 0) hC dX10_crosses_27 (by decide) ?_
      refine pz_lstore_n hC dX10_crosses_28 (by decide) rfl ?_
      refine pz_lconst (v := 0) hC dX10_crosses_29 (by decide) ?_
      refine pz_lstore hC dX10_crosses_30 (by decide) rfl ?_
      refine pz_iconst (v := (0 : Int32)) hC dX10_crosses_32 (by decide) ?_
      refine pz_istore hC dX10_crosses_33 (by decide) rfl ?_
      refine pz_sub [3, 4, 2, 1, 0] rfl ?_
      exact tX10_crosses_35 hC hK _ _ _ _ _ _ _ hf
    · refine pz_sub [] rfl ?_
      exact tX10_crosses_21 hC hK hf
def fnX10_count (f : pz_H) (a0 : Nat) (p1 : Int32) : Option (Int32 × pz_H) :=
  (pz_is f a0 9).bind fun _ =>
  (pz_sV f a0 9 0 (.int (0 : Int32))).bind fun f1 =>
  (fnX10_in p1 ((10 : Int32)) ((14 : Int32))).bind fun x2 =>
  if x2 = 0 then if p1 = (0 : Int32) then (pz_gR f1 a0 9 1).bind fun v3 =>
  (pz_aI f1 v3 0 ((3 : Int32))).bind fun v4 =>
  some (v4, f1) else
  if p1 = (1 : Int32) then (pz_gR f1 a0 9 1).bind fun v5 =>
  (pz_aI f1 v5 0 ((4 : Int32))).bind fun v6 =>
  some (v6, f1) else
  if p1 = (2 : Int32) then (pz_gR f1 a0 9 1).bind fun v7 =>
  (pz_aI f1 v7 0 ((5 : Int32))).bind fun v8 =>
  some (v8, f1) else
  if p1 = (3 : Int32) then (pz_gR f1 a0 9 1).bind fun v9 =>
  (pz_aI f1 v9 0 ((0 : Int32))).bind fun v10 =>
  some (v10, f1) else
  if p1 = (4 : Int32) then (pz_gR f1 a0 9 1).bind fun v11 =>
  (pz_aI f1 v11 0 ((1 : Int32))).bind fun v12 =>
  some (v12, f1) else
  if p1 = (5 : Int32) then (pz_gR f1 a0 9 1).bind fun v13 =>
  (pz_aI f1 v13 0 ((2 : Int32))).bind fun v14 =>
  some (v14, f1) else
  if p1 = (6 : Int32) then (pz_gI f1 a0 9 14).bind fun v15 =>
  some (v15, f1) else
  if p1 = (7 : Int32) then (pz_gI f1 a0 9 4).bind fun v16 =>
  some (v16, f1) else
  some (((-1) : Int32), f1) else
  (pz_gR f1 a0 9 1).bind fun v17 =>
  (pz_aI f1 v17 0 ((((6 : Int32) + p1) - (10 : Int32)))).bind fun v18 =>
  some (v18, f1)
theorem mX10_count {l : Launch} {G : pz_G} {f : pz_H} {a0 : Nat} {p1 : Int32} {r : (Int32 × pz_H)} (hf : fnX10_count f a0 p1 = some r) : pz_Met l G yX10_count cX10_count 2 (some .int) 1 22 0 0 [.ref a0, .int p1] f (some (.int r.1)) r.2 ∧ pz_is f a0 9 = some () := by
  unfold fnX10_count at hf
  obtain ⟨_, h0, hf⟩ := pz_bd hf
  refine ⟨pz_enter (by decide +kernel) (Nat.le_of_ble_eq_true rfl) (fun C hl hC hK hnm => ?_), h0⟩
  subst hl
  refine pz_sub (lv' := [(0, .ref a0), (1, .int p1)]) [0, 1] rfl ?_
  refine pz_aload_n hC dX10_count_0 0 rfl ?_
  refine pz_iconst (v := (0 : Int32)) hC dX10_count_1 (by decide) ?_
  refine pz_putV hC dX10_count_2 fp_X10_48 rfl rfl hf (fun f1 hf => ?_)
  refine pz_iload_n hC dX10_count_5 1 rfl ?_
  refine pz_bipush (v := (10 : Int32)) hC dX10_count_6 (by decide) ?_
  refine pz_bipush (v := (14 : Int32)) hC dX10_count_8 (by decide) ?_
  refine pz_Si (As := [.int p1, .int (10 : Int32), .int (14 : Int32)]) hC hK dX10_count_10 py_X10_in ps_X10_in lk_X10_52 hf (fun _ h => mX10_in h) rfl rfl (Nat.le_of_ble_eq_true rfl) ⟨by decide, by decide⟩ ⟨by decide, by decide⟩ (fun x2 hf => ?_)
  refine pz_if_eq hC dX10_count_13 hf (fun _ hf => ?_) (fun _ hf => ?_)
  · refine pz_iload_n hC dX10_count_29 1 rfl ?_
    refine pz_case (x := p1) (v := (0 : Int32)) hf (fun c30_0 hf => ?_) (fun c30_0 hf => ?_)
    · refine pz_tabI (tgt := 76) hC dX10_count_30 c30_0 (by decide) (by decide) rfl rfl ?_
      refine pz_aload_n hC dX10_count_76 0 rfl ?_
      refine pz_getR hC dX10_count_77 fa_X10_7 hf (fun v3 hf => ?_)
      refine pz_iconst (v := (3 : Int32)) hC dX10_count_80 (by decide) ?_
      refine pz_iald hC dX10_count_81 hf (fun v4 hf => ?_)
      exact pz_iretw hC hK dX10_count_82 hf
    refine pz_case (x := p1) (v := (1 : Int32)) hf (fun c30_1 hf => ?_) (fun c30_1 hf => ?_)
    · refine pz_tabI (tgt := 83) hC dX10_count_30 c30_1 (by decide) (by decide) rfl rfl ?_
      refine pz_aload_n hC dX10_count_83 0 rfl ?_
      refine pz_getR hC dX10_count_84 fa_X10_7 hf (fun v5 hf => ?_)
      refine pz_iconst (v := (4 : Int32)) hC dX10_count_87 (by decide) ?_
      refine pz_iald hC dX10_count_88 hf (fun v6 hf => ?_)
      exact pz_iretw hC hK dX10_count_89 hf
    refine pz_case (x := p1) (v := (2 : Int32)) hf (fun c30_2 hf => ?_) (fun c30_2 hf => ?_)
    · refine pz_tabI (tgt := 90) hC dX10_count_30 c30_2 (by decide) (by decide) rfl rfl ?_
      refine pz_aload_n hC dX10_count_90 0 rfl ?_
      refine pz_getR hC dX10_count_91 fa_X10_7 hf (fun v7 hf => ?_)
      refine pz_iconst (v := (5 : Int32)) hC dX10_count_94 (by decide) ?_
      refine pz_iald hC dX10_count_95 hf (fun v8 hf => ?_)
      exact pz_iretw hC hK dX10_count_96 hf
    refine pz_case (x := p1) (v := (3 : Int32)) hf (fun c30_3 hf => ?_) (fun c30_3 hf => ?_)
    · refine pz_tabI (tgt := 97) hC dX10_count_30 c30_3 (by decide) (by decide) rfl rfl ?_
      refine pz_aload_n hC dX10_count_97 0 rfl ?_
      refine pz_getR hC dX10_count_98 fa_X10_7 hf (fun v9 hf => ?_)
      refine pz_iconst (v := (0 : Int32)) hC dX10_count_101 (by decide) ?_
      refine pz_iald hC dX10_count_102 hf (fun v10 hf => ?_)
      exact pz_iretw hC hK dX10_count_103 hf
    refine pz_case (x := p1) (v := (4 : Int32)) hf (fun c30_4 hf => ?_) (fun c30_4 hf => ?_)
    · refine pz_tabI (tgt := 104) hC dX10_count_30 c30_4 (by decide) (by decide) rfl rfl ?_
      refine pz_aload_n hC dX10_count_104 0 rfl ?_
      refine pz_getR hC dX10_count_105 fa_X10_7 hf (fun v11 hf => ?_)
      refine pz_iconst (v := (1 : Int32)) hC dX10_count_108 (by decide) ?_
      refine pz_iald hC dX10_count_109 hf (fun v12 hf => ?_)
      exact pz_iretw hC hK dX10_count_110 hf
    refine pz_case (x := p1) (v := (5 : Int32)) hf (fun c30_5 hf => ?_) (fun c30_5 hf => ?_)
    · refine pz_tabI (tgt := 111) hC dX10_count_30 c30_5 (by decide) (by decide) rfl rfl ?_
      refine pz_aload_n hC dX10_count_111 0 rfl ?_
      refine pz_getR hC dX10_count_112 fa_X10_7 hf (fun v13 hf => ?_)
      refine pz_iconst (v := (2 : Int32)) hC dX10_count_115 (by decide) ?_
      refine pz_iald hC dX10_count_116 hf (fun v14 hf => ?_)
      exact pz_iretw hC hK dX10_count_117 hf
    refine pz_case (x := p1) (v := (6 : Int32)) hf (fun c30_6 hf => ?_) (fun c30_6 hf => ?_)
    · refine pz_tabI (tgt := 118) hC dX10_count_30 c30_6 (by decide) (by decide) rfl rfl ?_
      refine pz_aload_n hC dX10_count_118 0 rfl ?_
      refine pz_getI hC dX10_count_119 fa_X10_169 hf (fun v15 hf => ?_)
      exact pz_iretw hC hK dX10_count_122 hf
    refine pz_case (x := p1) (v := (7 : Int32)) hf (fun c30_7 hf => ?_) (fun c30_7 hf => ?_)
    · refine pz_tabI (tgt := 123) hC dX10_count_30 c30_7 (by decide) (by decide) rfl rfl ?_
      refine pz_aload_n hC dX10_count_123 0 rfl ?_
      refine pz_getI hC dX10_count_124 fa_X10_172 hf (fun v16 hf => ?_)
      exact pz_iretw hC hK dX10_count_127 hf
    have ec30_0 : ¬ p1.toInt = 0 := lv_neT c30_0 rfl
    have ec30_1 : ¬ p1.toInt = 1 := lv_neT c30_1 rfl
    have ec30_2 : ¬ p1.toInt = 2 := lv_neT c30_2 rfl
    have ec30_3 : ¬ p1.toInt = 3 := lv_neT c30_3 rfl
    have ec30_4 : ¬ p1.toInt = 4 := lv_neT c30_4 rfl
    have ec30_5 : ¬ p1.toInt = 5 := lv_neT c30_5 rfl
    have ec30_6 : ¬ p1.toInt = 6 := lv_neT c30_6 rfl
    have ec30_7 : ¬ p1.toInt = 7 := lv_neT c30_7 rfl
    refine pz_tabO (tgt := 128) hC dX10_count_30 (by omega) rfl ?_
    refine pz_iconst (v := ((-1) : Int32)) hC dX10_count_128 (by decide) ?_
    exact pz_iretw hC hK dX10_count_129 hf
  · refine pz_aload_n hC dX10_count_16 0 rfl ?_
    refine pz_getR hC dX10_count_17 fa_X10_7 hf (fun v17 hf => ?_)
    refine pz_bipush (v := (6 : Int32)) hC dX10_count_20 (by decide) ?_
    refine pz_iload_n hC dX10_count_22 1 rfl ?_
    refine pz_iadd hC dX10_count_23 ?_
    refine pz_bipush (v := (10 : Int32)) hC dX10_count_24 (by decide) ?_
    refine pz_isub hC dX10_count_26 ?_
    refine pz_iald hC dX10_count_27 hf (fun v18 hf => ?_)
    exact pz_iretw hC hK dX10_count_28 hf
def fX10_span_51 (f : pz_H) (s0 : Int32) : Option (Int32 × pz_H) :=
  some (s0, f)
theorem tX10_span_51 {G : pz_G} {C : pz_C} {f : pz_H} {s0 : Int32} {r : (Int32 × pz_H)} (hC : pz_OK G C cX10_span 3 RX10) (hK : pz_K C (some .int) 1 22 0 0) (hf : fX10_span_51 f s0 = some r) : pz_W G C 3 51 [] [.int s0] f 0 0 (pz_Q G C (some (.int r.1)) r.2 0 0) := by
  unfold fX10_span_51 at hf
  exact pz_iretw hC hK dX10_span_51 hf
def fX10_span_31 (f : pz_H) (l0 : Nat) (l1 : Int32) (l2 : Int32) (s0 : Int32) (s1 : Nat) : Option (Int32 × pz_H) :=
  (pz_sV f s1 9 0 (.int s0)).bind fun f1 =>
  (pz_gI f1 l0 9 0).bind fun v2 =>
  if v2 ≤ 0 then (fnX10_spanOf f1 l0 l1 l2).bind fun x3 =>
  fX10_span_51 f1 x3 else
  fX10_span_51 f1 ((0 : Int32))
theorem tX10_span_31 {G : pz_G} {C : pz_C} {f : pz_H} {l0 : Nat} {l1 : Int32} {l2 : Int32} {s0 : Int32} {s1 : Nat} {r : (Int32 × pz_H)} (hC : pz_OK G C cX10_span 3 RX10) (hK : pz_K C (some .int) 1 22 0 0) (hf : fX10_span_31 f l0 l1 l2 s0 s1 = some r) : pz_W G C 3 31 [(0, .ref l0), (1, .int l1), (2, .int l2)] [.int s0, .ref s1] f 0 0 (pz_Q G C (some (.int r.1)) r.2 0 0) := by
  unfold fX10_span_31 at hf
  refine pz_putV hC dX10_span_31 fp_X10_48 rfl rfl hf (fun f1 hf => ?_)
  refine pz_aload_n hC dX10_span_34 0 rfl ?_
  refine pz_getI hC dX10_span_35 fa_X10_48 hf (fun v2 hf => ?_)
  refine pz_if_le hC dX10_span_38 hf (fun _ hf => ?_) (fun _ hf => ?_)
  · refine pz_aload_n hC dX10_span_45 0 rfl ?_
    refine pz_iload_n hC dX10_span_46 1 rfl ?_
    refine pz_iload_n hC dX10_span_47 2 rfl ?_
    refine pz_Vi (As := [.int l1, .int l2]) hC hK dX10_span_48 py_X10_spanOf pv_X10_spanOf lk_X10_60 hf (fun _ h => mX10_spanOf h) rfl rfl (Nat.le_of_ble_eq_true rfl) ⟨by decide, by decide⟩ ⟨by decide, by decide⟩ (fun x3 hf => ?_)
    refine pz_sub [] rfl ?_
    exact tX10_span_51 hC hK hf
  · refine pz_iconst (v := (0 : Int32)) hC dX10_span_41 (by decide) ?_
    refine pz_goto hC dX10_span_42 ?_
    refine pz_sub [] rfl ?_
    exact tX10_span_51 hC hK hf
def fX10_span_30 (f : pz_H) (l0 : Nat) (l1 : Int32) (l2 : Int32) (s0 : Nat) : Option (Int32 × pz_H) :=
  fX10_span_31 f l0 l1 l2 ((1 : Int32)) s0
theorem tX10_span_30 {G : pz_G} {C : pz_C} {f : pz_H} {l0 : Nat} {l1 : Int32} {l2 : Int32} {s0 : Nat} {r : (Int32 × pz_H)} (hC : pz_OK G C cX10_span 3 RX10) (hK : pz_K C (some .int) 1 22 0 0) (hf : fX10_span_30 f l0 l1 l2 s0 = some r) : pz_W G C 3 30 [(0, .ref l0), (1, .int l1), (2, .int l2)] [.ref s0] f 0 0 (pz_Q G C (some (.int r.1)) r.2 0 0) := by
  unfold fX10_span_30 at hf
  refine pz_iconst (v := (1 : Int32)) hC dX10_span_30 (by decide) ?_
  exact tX10_span_31 hC hK hf
def fnX10_span (f : pz_H) (a0 : Nat) (p1 : Int32) (p2 : Int32) : Option (Int32 × pz_H) :=
  (pz_is f a0 9).bind fun _ =>
  (pz_gR f a0 9 1).bind fun v1 =>
  (pz_aI f v1 0 ((3 : Int32))).bind fun v2 =>
  (fnX10_in p1 ((0 : Int32)) ((v2 - (1 : Int32)))).bind fun x3 =>
  if x3 = 0 then fX10_span_30 f a0 p1 p2 a0 else
  (fnX10_in p2 ((0 : Int32)) ((2 : Int32))).bind fun x4 =>
  if x4 = 0 then fX10_span_30 f a0 p1 p2 a0 else
  fX10_span_31 f a0 p1 p2 ((0 : Int32)) a0
theorem mX10_span {l : Launch} {G : pz_G} {f : pz_H} {a0 : Nat} {p1 : Int32} {p2 : Int32} {r : (Int32 × pz_H)} (hf : fnX10_span f a0 p1 p2 = some r) : pz_Met l G yX10_span cX10_span 3 (some .int) 1 22 0 0 [.ref a0, .int p1, .int p2] f (some (.int r.1)) r.2 ∧ pz_is f a0 9 = some () := by
  unfold fnX10_span at hf
  obtain ⟨_, h0, hf⟩ := pz_bd hf
  refine ⟨pz_enter (by decide +kernel) (Nat.le_of_ble_eq_true rfl) (fun C hl hC hK hnm => ?_), h0⟩
  subst hl
  refine pz_sub (lv' := [(0, .ref a0), (1, .int p1), (2, .int p2)]) [0, 1, 2] rfl ?_
  refine pz_aload_n hC dX10_span_0 0 rfl ?_
  refine pz_iload_n hC dX10_span_1 1 rfl ?_
  refine pz_iconst (v := (0 : Int32)) hC dX10_span_2 (by decide) ?_
  refine pz_aload_n hC dX10_span_3 0 rfl ?_
  refine pz_getR hC dX10_span_4 fa_X10_7 hf (fun v1 hf => ?_)
  refine pz_iconst (v := (3 : Int32)) hC dX10_span_7 (by decide) ?_
  refine pz_iald hC dX10_span_8 hf (fun v2 hf => ?_)
  refine pz_iconst (v := (1 : Int32)) hC dX10_span_9 (by decide) ?_
  refine pz_isub hC dX10_span_10 ?_
  refine pz_Si (As := [.int p1, .int (0 : Int32), .int (v2 - (1 : Int32))]) hC hK dX10_span_11 py_X10_in ps_X10_in lk_X10_52 hf (fun _ h => mX10_in h) rfl rfl (Nat.le_of_ble_eq_true rfl) ⟨by decide, by decide⟩ ⟨by decide, by decide⟩ (fun x3 hf => ?_)
  refine pz_if_eq hC dX10_span_14 hf (fun _ hf => ?_) (fun _ hf => ?_)
  · exact tX10_span_30 hC hK hf
  · refine pz_iload_n hC dX10_span_17 2 rfl ?_
    refine pz_iconst (v := (0 : Int32)) hC dX10_span_18 (by decide) ?_
    refine pz_iconst (v := (2 : Int32)) hC dX10_span_19 (by decide) ?_
    refine pz_Si (As := [.int p2, .int (0 : Int32), .int (2 : Int32)]) hC hK dX10_span_20 py_X10_in ps_X10_in lk_X10_52 hf (fun _ h => mX10_in h) rfl rfl (Nat.le_of_ble_eq_true rfl) ⟨by decide, by decide⟩ ⟨by decide, by decide⟩ (fun x4 hf => ?_)
    refine pz_if_eq hC dX10_span_23 hf (fun _ hf => ?_) (fun _ hf => ?_)
    · exact tX10_span_30 hC hK hf
    · refine pz_iconst (v := (0 : Int32)) hC dX10_span_26 (by decide) ?_
      refine pz_goto hC dX10_span_27 ?_
      exact tX10_span_31 hC hK hf
def fX10_spouse_70 (f : pz_H) (s0 : Int32) : Option (Int32 × pz_H) :=
  some (s0, f)
theorem tX10_spouse_70 {G : pz_G} {C : pz_C} {f : pz_H} {s0 : Int32} {r : (Int32 × pz_H)} (hC : pz_OK G C cX10_spouse 3 RX10) (hK : pz_K C (some .int) 3 69 0 0) (hf : fX10_spouse_70 f s0 = some r) : pz_W G C 3 70 [] [.int s0] f 0 0 (pz_Q G C (some (.int r.1)) r.2 0 0) := by
  unfold fX10_spouse_70 at hf
  exact pz_iretw hC hK dX10_spouse_70 hf
def fX10_spouse_24 (f : pz_H) (l0 : Nat) (l1 : Int32) (l2 : Int32) (s0 : Int32) (s1 : Nat) : Option (Int32 × pz_H) :=
  (pz_sV f s1 9 0 (.int s0)).bind fun f1 =>
  (pz_gI f1 l0 9 0).bind fun v2 =>
  if v2 ≤ 0 then if (8 : Int32) ≤ l2 then if l2 = (8 : Int32) then (fnX10_wedIn f1 l0 l1).bind fun x4 =>
  fX10_spouse_70 f1 x4 else
  (fnX10_begin f1 l0 l1).bind fun x3 =>
  fX10_spouse_70 f1 x3 else
  (fnX10_its f1 l0 l1 l2).bind fun x5 =>
  fX10_spouse_70 f1 x5 else
  some ((0 : Int32), f1)
theorem tX10_spouse_24 {G : pz_G} {C : pz_C} {f : pz_H} {l0 : Nat} {l1 : Int32} {l2 : Int32} {s0 : Int32} {s1 : Nat} {r : (Int32 × pz_H)} (hC : pz_OK G C cX10_spouse 3 RX10) (hK : pz_K C (some .int) 3 69 0 0) (hf : fX10_spouse_24 f l0 l1 l2 s0 s1 = some r) : pz_W G C 3 24 [(0, .ref l0), (1, .int l1), (2, .int l2)] [.int s0, .ref s1] f 0 0 (pz_Q G C (some (.int r.1)) r.2 0 0) := by
  unfold fX10_spouse_24 at hf
  refine pz_putV hC dX10_spouse_24 fp_X10_48 rfl rfl hf (fun f1 hf => ?_)
  refine pz_aload_n hC dX10_spouse_27 0 rfl ?_
  refine pz_getI hC dX10_spouse_28 fa_X10_48 hf (fun v2 hf => ?_)
  refine pz_if_le hC dX10_spouse_31 hf (fun _ hf => ?_) (fun _ hf => ?_)
  · refine pz_iload_n hC dX10_spouse_36 2 rfl ?_
    refine pz_bipush (v := (8 : Int32)) hC dX10_spouse_37 (by decide) ?_
    refine pz_icmp_ge hC dX10_spouse_39 hf (fun _ hf => ?_) (fun _ hf => ?_)
    · refine pz_iload_n hC dX10_spouse_51 2 rfl ?_
      refine pz_bipush (v := (8 : Int32)) hC dX10_spouse_52 (by decide) ?_
      refine pz_icmp_ne hC dX10_spouse_54 hf (fun _ hf => ?_) (fun _ hf => ?_)
      · refine pz_aload_n hC dX10_spouse_65 0 rfl ?_
        refine pz_iload_n hC dX10_spouse_66 1 rfl ?_
        refine pz_Vi (As := [.int l1]) hC hK dX10_spouse_67 py_X10_begin pv_X10_begin lk_X10_121 hf (fun _ h => mX10_begin h) rfl rfl (Nat.le_of_ble_eq_true rfl) ⟨by decide, by decide⟩ ⟨by decide, by decide⟩ (fun x3 hf => ?_)
        refine pz_sub [] rfl ?_
        exact tX10_spouse_70 hC hK hf
      · refine pz_aload_n hC dX10_spouse_57 0 rfl ?_
        refine pz_iload_n hC dX10_spouse_58 1 rfl ?_
        refine pz_Vi (As := [.int l1]) hC hK dX10_spouse_59 py_X10_wedIn pv_X10_wedIn lk_X10_98 hf (fun _ h => mX10_wedIn h) rfl rfl (Nat.le_of_ble_eq_true rfl) ⟨by decide, by decide⟩ ⟨by decide, by decide⟩ (fun x4 hf => ?_)
        refine pz_goto hC dX10_spouse_62 ?_
        refine pz_sub [] rfl ?_
        exact tX10_spouse_70 hC hK hf
    · refine pz_aload_n hC dX10_spouse_42 0 rfl ?_
      refine pz_iload_n hC dX10_spouse_43 1 rfl ?_
      refine pz_iload_n hC dX10_spouse_44 2 rfl ?_
      refine pz_Vi (As := [.int l1, .int l2]) hC hK dX10_spouse_45 py_X10_its pv_X10_its lk_X10_56 hf (fun _ h => mX10_its h) rfl rfl (Nat.le_of_ble_eq_true rfl) ⟨by decide, by decide⟩ ⟨by decide, by decide⟩ (fun x5 hf => ?_)
      refine pz_goto hC dX10_spouse_48 ?_
      refine pz_sub [] rfl ?_
      exact tX10_spouse_70 hC hK hf
  · refine pz_iconst (v := (0 : Int32)) hC dX10_spouse_34 (by decide) ?_
    exact pz_iretw hC hK dX10_spouse_35 hf
def fX10_spouse_23 (f : pz_H) (l0 : Nat) (l1 : Int32) (l2 : Int32) (s0 : Nat) : Option (Int32 × pz_H) :=
  fX10_spouse_24 f l0 l1 l2 ((1 : Int32)) s0
theorem tX10_spouse_23 {G : pz_G} {C : pz_C} {f : pz_H} {l0 : Nat} {l1 : Int32} {l2 : Int32} {s0 : Nat} {r : (Int32 × pz_H)} (hC : pz_OK G C cX10_spouse 3 RX10) (hK : pz_K C (some .int) 3 69 0 0) (hf : fX10_spouse_23 f l0 l1 l2 s0 = some r) : pz_W G C 3 23 [(0, .ref l0), (1, .int l1), (2, .int l2)] [.ref s0] f 0 0 (pz_Q G C (some (.int r.1)) r.2 0 0) := by
  unfold fX10_spouse_23 at hf
  refine pz_iconst (v := (1 : Int32)) hC dX10_spouse_23 (by decide) ?_
  exact tX10_spouse_24 hC hK hf
def fnX10_spouse (f : pz_H) (a0 : Nat) (p1 : Int32) (p2 : Int32) : Option (Int32 × pz_H) :=
  (pz_is f a0 9).bind fun _ =>
  (fnX10_isSpouse f a0 p1).bind fun x1 =>
  if x1 = 0 then fX10_spouse_23 f a0 p1 p2 a0 else
  (fnX10_in p2 ((0 : Int32)) ((9 : Int32))).bind fun x2 =>
  if x2 = 0 then fX10_spouse_23 f a0 p1 p2 a0 else
  fX10_spouse_24 f a0 p1 p2 ((0 : Int32)) a0
theorem mX10_spouse {l : Launch} {G : pz_G} {f : pz_H} {a0 : Nat} {p1 : Int32} {p2 : Int32} {r : (Int32 × pz_H)} (hf : fnX10_spouse f a0 p1 p2 = some r) : pz_Met l G yX10_spouse cX10_spouse 3 (some .int) 3 69 0 0 [.ref a0, .int p1, .int p2] f (some (.int r.1)) r.2 ∧ pz_is f a0 9 = some () := by
  unfold fnX10_spouse at hf
  obtain ⟨_, h0, hf⟩ := pz_bd hf
  refine ⟨pz_enter (by decide +kernel) (Nat.le_of_ble_eq_true rfl) (fun C hl hC hK hnm => ?_), h0⟩
  subst hl
  refine pz_sub (lv' := [(0, .ref a0), (1, .int p1), (2, .int p2)]) [0, 1, 2] rfl ?_
  refine pz_aload_n hC dX10_spouse_0 0 rfl ?_
  refine pz_aload_n hC dX10_spouse_1 0 rfl ?_
  refine pz_iload_n hC dX10_spouse_2 1 rfl ?_
  refine pz_Vi (As := [.int p1]) hC hK dX10_spouse_3 py_X10_isSpouse pv_X10_isSpouse lk_X10_149 hf (fun _ h => mX10_isSpouse h) rfl rfl (Nat.le_of_ble_eq_true rfl) ⟨by decide, by decide⟩ ⟨by decide, by decide⟩ (fun x1 hf => ?_)
  refine pz_if_eq hC dX10_spouse_6 hf (fun _ hf => ?_) (fun _ hf => ?_)
  · exact tX10_spouse_23 hC hK hf
  · refine pz_iload_n hC dX10_spouse_9 2 rfl ?_
    refine pz_iconst (v := (0 : Int32)) hC dX10_spouse_10 (by decide) ?_
    refine pz_bipush (v := (9 : Int32)) hC dX10_spouse_11 (by decide) ?_
    refine pz_Si (As := [.int p2, .int (0 : Int32), .int (9 : Int32)]) hC hK dX10_spouse_13 py_X10_in ps_X10_in lk_X10_52 hf (fun _ h => mX10_in h) rfl rfl (Nat.le_of_ble_eq_true rfl) ⟨by decide, by decide⟩ ⟨by decide, by decide⟩ (fun x2 hf => ?_)
    refine pz_if_eq hC dX10_spouse_16 hf (fun _ hf => ?_) (fun _ hf => ?_)
    · exact tX10_spouse_23 hC hK hf
    · refine pz_iconst (v := (0 : Int32)) hC dX10_spouse_19 (by decide) ?_
      refine pz_goto hC dX10_spouse_20 ?_
      exact tX10_spouse_24 hC hK hf
def fX10_service_29 (f : pz_H) (s0 : Int32) : Option (Int32 × pz_H) :=
  some (s0, f)
theorem tX10_service_29 {G : pz_G} {C : pz_C} {f : pz_H} {s0 : Int32} {r : (Int32 × pz_H)} (hC : pz_OK G C cX10_service 3 RX10) (hK : pz_K C (some .int) 2 48 0 0) (hf : fX10_service_29 f s0 = some r) : pz_W G C 3 29 [] [.int s0] f 0 0 (pz_Q G C (some (.int r.1)) r.2 0 0) := by
  unfold fX10_service_29 at hf
  exact pz_iretw hC hK dX10_service_29 hf
def fX10_service_28 (f : pz_H) : Option (Int32 × pz_H) :=
  fX10_service_29 f (((-1) : Int32))
theorem tX10_service_28 {G : pz_G} {C : pz_C} {f : pz_H} {r : (Int32 × pz_H)} (hC : pz_OK G C cX10_service 3 RX10) (hK : pz_K C (some .int) 2 48 0 0) (hf : fX10_service_28 f = some r) : pz_W G C 3 28 [] [] f 0 0 (pz_Q G C (some (.int r.1)) r.2 0 0) := by
  unfold fX10_service_28 at hf
  refine pz_iconst (v := ((-1) : Int32)) hC dX10_service_28 (by decide) ?_
  exact tX10_service_29 hC hK hf
def fnX10_service (f : pz_H) (a0 : Nat) (p1 : Int32) (p2 : Int32) : Option (Int32 × pz_H) :=
  (pz_is f a0 9).bind fun _ =>
  (pz_sV f a0 9 0 (.int (0 : Int32))).bind fun f1 =>
  (fnX10_isMonth p1).bind fun x2 =>
  if x2 = 0 then fX10_service_28 f1 else
  (fnX10_isMonth p2).bind fun x3 =>
  if x3 = 0 then fX10_service_28 f1 else
  (fnX10_serviceIn f1 a0 p1 p2).bind fun x4 =>
  fX10_service_29 f1 x4
theorem mX10_service {l : Launch} {G : pz_G} {f : pz_H} {a0 : Nat} {p1 : Int32} {p2 : Int32} {r : (Int32 × pz_H)} (hf : fnX10_service f a0 p1 p2 = some r) : pz_Met l G yX10_service cX10_service 3 (some .int) 2 48 0 0 [.ref a0, .int p1, .int p2] f (some (.int r.1)) r.2 ∧ pz_is f a0 9 = some () := by
  unfold fnX10_service at hf
  obtain ⟨_, h0, hf⟩ := pz_bd hf
  refine ⟨pz_enter (by decide +kernel) (Nat.le_of_ble_eq_true rfl) (fun C hl hC hK hnm => ?_), h0⟩
  subst hl
  refine pz_sub (lv' := [(0, .ref a0), (1, .int p1), (2, .int p2)]) [0, 1, 2] rfl ?_
  refine pz_aload_n hC dX10_service_0 0 rfl ?_
  refine pz_iconst (v := (0 : Int32)) hC dX10_service_1 (by decide) ?_
  refine pz_putV hC dX10_service_2 fp_X10_48 rfl rfl hf (fun f1 hf => ?_)
  refine pz_iload_n hC dX10_service_5 1 rfl ?_
  refine pz_Si (As := [.int p1]) hC hK dX10_service_6 py_X10_isMonth ps_X10_isMonth lk_X10_155 hf (fun _ h => mX10_isMonth h) rfl rfl (Nat.le_of_ble_eq_true rfl) ⟨by decide, by decide⟩ ⟨by decide, by decide⟩ (fun x2 hf => ?_)
  refine pz_if_eq hC dX10_service_9 hf (fun _ hf => ?_) (fun _ hf => ?_)
  · refine pz_sub [] rfl ?_
    exact tX10_service_28 hC hK hf
  · refine pz_iload_n hC dX10_service_12 2 rfl ?_
    refine pz_Si (As := [.int p2]) hC hK dX10_service_13 py_X10_isMonth ps_X10_isMonth lk_X10_155 hf (fun _ h => mX10_isMonth h) rfl rfl (Nat.le_of_ble_eq_true rfl) ⟨by decide, by decide⟩ ⟨by decide, by decide⟩ (fun x3 hf => ?_)
    refine pz_if_eq hC dX10_service_16 hf (fun _ hf => ?_) (fun _ hf => ?_)
    · refine pz_sub [] rfl ?_
      exact tX10_service_28 hC hK hf
    · refine pz_aload_n hC dX10_service_19 0 rfl ?_
      refine pz_iload_n hC dX10_service_20 1 rfl ?_
      refine pz_iload_n hC dX10_service_21 2 rfl ?_
      refine pz_Vi (As := [.int p1, .int p2]) hC hK dX10_service_22 py_X10_serviceIn pv_X10_serviceIn lk_X10_63 hf (fun _ h => mX10_serviceIn h) rfl rfl (Nat.le_of_ble_eq_true rfl) ⟨by decide, by decide⟩ ⟨by decide, by decide⟩ (fun x4 hf => ?_)
      refine pz_goto hC dX10_service_25 ?_
      refine pz_sub [] rfl ?_
      exact tX10_service_29 hC hK hf
def fnX10_benefit (f : pz_H) (a0 : Nat) (p1 : Int32) : Option (Int32 × pz_H) :=
  (pz_is f a0 9).bind fun _ =>
  (pz_sV f a0 9 0 (.int (0 : Int32))).bind fun f1 =>
  if p1 = (0 : Int32) then (fnX10_served f1 a0).bind fun x2 =>
  some (x2, f1) else
  if p1 = (1 : Int32) then (fnX10_finalPay f1 a0).bind fun x3 =>
  some (x3, f1) else
  if p1 = (2 : Int32) then (fnX10_base f1 a0).bind fun x4 =>
  some (x4, f1) else
  if p1 = (3 : Int32) then (fnX10_firstPaid f1 a0).bind fun x5 =>
  some (x5, f1) else
  some (((-1) : Int32), f1)
theorem mX10_benefit {l : Launch} {G : pz_G} {f : pz_H} {a0 : Nat} {p1 : Int32} {r : (Int32 × pz_H)} (hf : fnX10_benefit f a0 p1 = some r) : pz_Met l G yX10_benefit cX10_benefit 2 (some .int) 5 110 0 0 [.ref a0, .int p1] f (some (.int r.1)) r.2 ∧ pz_is f a0 9 = some () := by
  unfold fnX10_benefit at hf
  obtain ⟨_, h0, hf⟩ := pz_bd hf
  refine ⟨pz_enter (by decide +kernel) (Nat.le_of_ble_eq_true rfl) (fun C hl hC hK hnm => ?_), h0⟩
  subst hl
  refine pz_sub (lv' := [(0, .ref a0), (1, .int p1)]) [0, 1] rfl ?_
  refine pz_aload_n hC dX10_benefit_0 0 rfl ?_
  refine pz_iconst (v := (0 : Int32)) hC dX10_benefit_1 (by decide) ?_
  refine pz_putV hC dX10_benefit_2 fp_X10_48 rfl rfl hf (fun f1 hf => ?_)
  refine pz_iload_n hC dX10_benefit_5 1 rfl ?_
  refine pz_case (x := p1) (v := (0 : Int32)) hf (fun c6_0 hf => ?_) (fun c6_0 hf => ?_)
  · refine pz_tabI (tgt := 36) hC dX10_benefit_6 c6_0 (by decide) (by decide) rfl rfl ?_
    refine pz_aload_n hC dX10_benefit_36 0 rfl ?_
    refine pz_Vi (As := []) hC hK dX10_benefit_37 py_X10_served pv_X10_served lk_X10_70 hf (fun _ h => mX10_served h) rfl rfl (Nat.le_of_ble_eq_true rfl) ⟨by decide, by decide⟩ ⟨by decide, by decide⟩ (fun x2 hf => ?_)
    exact pz_iretw hC hK dX10_benefit_40 hf
  refine pz_case (x := p1) (v := (1 : Int32)) hf (fun c6_1 hf => ?_) (fun c6_1 hf => ?_)
  · refine pz_tabI (tgt := 41) hC dX10_benefit_6 c6_1 (by decide) (by decide) rfl rfl ?_
    refine pz_aload_n hC dX10_benefit_41 0 rfl ?_
    refine pz_Vi (As := []) hC hK dX10_benefit_42 py_X10_finalPay pv_X10_finalPay lk_X10_66 hf (fun _ h => mX10_finalPay h) rfl rfl (Nat.le_of_ble_eq_true rfl) ⟨by decide, by decide⟩ ⟨by decide, by decide⟩ (fun x3 hf => ?_)
    exact pz_iretw hC hK dX10_benefit_45 hf
  refine pz_case (x := p1) (v := (2 : Int32)) hf (fun c6_2 hf => ?_) (fun c6_2 hf => ?_)
  · refine pz_tabI (tgt := 46) hC dX10_benefit_6 c6_2 (by decide) (by decide) rfl rfl ?_
    refine pz_aload_n hC dX10_benefit_46 0 rfl ?_
    refine pz_Vi (As := []) hC hK dX10_benefit_47 py_X10_base pv_X10_base lk_X10_75 hf (fun _ h => mX10_base h) rfl rfl (Nat.le_of_ble_eq_true rfl) ⟨by decide, by decide⟩ ⟨by decide, by decide⟩ (fun x4 hf => ?_)
    exact pz_iretw hC hK dX10_benefit_50 hf
  refine pz_case (x := p1) (v := (3 : Int32)) hf (fun c6_3 hf => ?_) (fun c6_3 hf => ?_)
  · refine pz_tabI (tgt := 51) hC dX10_benefit_6 c6_3 (by decide) (by decide) rfl rfl ?_
    refine pz_aload_n hC dX10_benefit_51 0 rfl ?_
    refine pz_Vi (As := []) hC hK dX10_benefit_52 py_X10_firstPaid pv_X10_firstPaid lk_X10_84 hf (fun _ h => mX10_firstPaid h) rfl rfl (Nat.le_of_ble_eq_true rfl) ⟨by decide, by decide⟩ ⟨by decide, by decide⟩ (fun x5 hf => ?_)
    exact pz_iretw hC hK dX10_benefit_55 hf
  have ec6_0 : ¬ p1.toInt = 0 := lv_neT c6_0 rfl
  have ec6_1 : ¬ p1.toInt = 1 := lv_neT c6_1 rfl
  have ec6_2 : ¬ p1.toInt = 2 := lv_neT c6_2 rfl
  have ec6_3 : ¬ p1.toInt = 3 := lv_neT c6_3 rfl
  refine pz_tabO (tgt := 56) hC dX10_benefit_6 (by omega) rfl ?_
  refine pz_iconst (v := ((-1) : Int32)) hC dX10_benefit_56 (by decide) ?_
  exact pz_iretw hC hK dX10_benefit_57 hf
def fnX10_whole (f : pz_H) (a0 : Nat) (p1 : Int32) : Option (Int32 × pz_H) :=
  (pz_is f a0 9).bind fun _ =>
  (pz_sV f a0 9 0 (.int (0 : Int32))).bind fun f1 =>
  (fnX10_isMonth p1).bind fun x2 =>
  if x2 = 0 then some (((-1) : Int32), f1) else
  (fnX10_laysWholes f1 a0).bind fun x3 =>
  (pz_gR x3 a0 9 5).bind fun v4 =>
  (pz_aL x3 v4 1 p1).bind fun v5 =>
  some (v5.toInt32, x3)
theorem mX10_whole {l : Launch} {G : pz_G} {f : pz_H} {a0 : Nat} {p1 : Int32} {r : (Int32 × pz_H)} (hf : fnX10_whole f a0 p1 = some r) : pz_Met l G yX10_whole cX10_whole 2 (some .int) 6 135 0 0 [.ref a0, .int p1] f (some (.int r.1)) r.2 ∧ pz_is f a0 9 = some () := by
  unfold fnX10_whole at hf
  obtain ⟨_, h0, hf⟩ := pz_bd hf
  refine ⟨pz_enter (by decide +kernel) (Nat.le_of_ble_eq_true rfl) (fun C hl hC hK hnm => ?_), h0⟩
  subst hl
  refine pz_sub (lv' := [(0, .ref a0), (1, .int p1)]) [0, 1] rfl ?_
  refine pz_aload_n hC dX10_whole_0 0 rfl ?_
  refine pz_iconst (v := (0 : Int32)) hC dX10_whole_1 (by decide) ?_
  refine pz_putV hC dX10_whole_2 fp_X10_48 rfl rfl hf (fun f1 hf => ?_)
  refine pz_iload_n hC dX10_whole_5 1 rfl ?_
  refine pz_Si (As := [.int p1]) hC hK dX10_whole_6 py_X10_isMonth ps_X10_isMonth lk_X10_155 hf (fun _ h => mX10_isMonth h) rfl rfl (Nat.le_of_ble_eq_true rfl) ⟨by decide, by decide⟩ ⟨by decide, by decide⟩ (fun x2 hf => ?_)
  refine pz_if_ne hC dX10_whole_9 hf (fun _ hf => ?_) (fun _ hf => ?_)
  · refine pz_aload_n hC dX10_whole_14 0 rfl ?_
    refine pz_Vv (As := []) hC hK dX10_whole_15 py_X10_laysWholes pv_X10_laysWholes lk_X10_95 hf (fun _ h => mX10_laysWholes h) rfl rfl (Nat.le_of_ble_eq_true rfl) ⟨by decide, by decide⟩ ⟨by decide, by decide⟩ (fun x3 hf => ?_)
    refine pz_aload_n hC dX10_whole_18 0 rfl ?_
    refine pz_getR hC dX10_whole_19 fa_X10_19 hf (fun v4 hf => ?_)
    refine pz_iload_n hC dX10_whole_22 1 rfl ?_
    refine pz_lald hC dX10_whole_23 hf (fun v5 hf => ?_)
    refine pz_l2i hC dX10_whole_24 ?_
    exact pz_iretw hC hK dX10_whole_25 hf
  · refine pz_iconst (v := ((-1) : Int32)) hC dX10_whole_12 (by decide) ?_
    exact pz_iretw hC hK dX10_whole_13 hf
def fX10_divisor_4b (k4 : Int32 → Int32 → Option Int32) (l2 : Int32) (l3 : Int32) : Option Int32 :=
  if l3 = 0 then some l2 else
  if l3 = 0 then none else
  k4 l3 ((l2 - l2 / l3 * l3))
theorem tX10_divisor_4b {G : pz_G} {C : pz_C} {f : pz_H} {k4 : Int32 → Int32 → Option Int32} {l2 : Int32} {l3 : Int32} {r : Int32} (hC : pz_OK G C cX10_divisor 5 RX10) (hK : pz_K C (some .int) 0 0 0 0) (hk4 : ∀ (a2 : Int32) (a3 : Int32), k4 a2 a3 = some r → pz_W G C 5 4 [(2, .int a2), (3, .int a3)] [] f 0 0 (pz_Q G C (some (.int r)) f 0 0)) (hf : fX10_divisor_4b k4 l2 l3 = some r) : pz_W G C 5 4 [(2, .int l2), (3, .int l3)] [] f 0 0 (pz_Q G C (some (.int r)) f 0 0) := by
  unfold fX10_divisor_4b at hf
  refine pz_iload_n hC dX10_divisor_4 1 rfl ?_
  refine pz_if_eq hC dX10_divisor_5 hf (fun _ hf => ?_) (fun _ hf => ?_)
  · refine pz_iload_n hC dX10_divisor_21 0 rfl ?_
    exact pz_iret hC hK dX10_divisor_22 hf
  · refine pz_iload_n hC dX10_divisor_8 0 rfl ?_
    refine pz_iload_n hC dX10_divisor_9 1 rfl ?_
    refine pz_irem hC dX10_divisor_10 hf (fun hf => ?_)
    refine pz_istore hC dX10_divisor_11 (by decide) rfl ?_
    refine pz_iload_n hC dX10_divisor_13 2 rfl ?_
    refine pz_istore_n hC dX10_divisor_14 (by decide) rfl ?_
    refine pz_iload hC dX10_divisor_15 1 rfl ?_
    refine pz_istore_n hC dX10_divisor_17 (by decide) rfl ?_
    refine pz_goto hC dX10_divisor_18 ?_
    refine pz_sub [1, 0] rfl ?_
    exact hk4 _ _ hf
def fX10_divisor_4 : Nat → Int32 → Int32 → Option Int32
  | 0, _, _ => none
  | n + 1, l2, l3 => fX10_divisor_4b (fX10_divisor_4 n) l2 l3
theorem tX10_divisor_4 {G : pz_G} {C : pz_C} {f : pz_H} {r : Int32} (hC : pz_OK G C cX10_divisor 5 RX10) (hK : pz_K C (some .int) 0 0 0 0) : ∀ (N : Nat) (l2 : Int32) (l3 : Int32), fX10_divisor_4 N l2 l3 = some r → pz_W G C 5 4 [(2, .int l2), (3, .int l3)] [] f 0 0 (pz_Q G C (some (.int r)) f 0 0) := by
  intro N
  induction N with
  | zero => intro l2 l3 hf; cases hf
  | succ N ih => intro l2 l3 hf; exact tX10_divisor_4b hC hK (fun l2 l3 hf => ih l2 l3 hf) hf
def fnX10_divisor (p0 : Int32) (p1 : Int32) : Option Int32 :=
  fX10_divisor_4 pz_F p0 p1
theorem mX10_divisor {l : Launch} {G : pz_G} {f : pz_H} {p0 : Int32} {p1 : Int32} {r : Int32} (hf : fnX10_divisor p0 p1 = some r) : pz_Met l G yX10_divisor cX10_divisor 5 (some .int) 0 0 0 0 [.int p0, .int p1] f (some (.int r)) f := by
  unfold fnX10_divisor at hf
  refine pz_enter (by decide +kernel) (Nat.le_of_ble_eq_true rfl) (fun C hl hC hK hnm => ?_)
  subst hl
  refine pz_sub (lv' := [(0, .int p0), (1, .int p1)]) [0, 1] rfl ?_
  refine pz_iload_n hC dX10_divisor_0 0 rfl ?_
  refine pz_istore_n hC dX10_divisor_1 (by decide) rfl ?_
  refine pz_iload_n hC dX10_divisor_2 2 rfl ?_
  refine pz_istore_n hC dX10_divisor_3 (by decide) rfl ?_
  refine pz_sub [1, 0] rfl ?_
  exact tX10_divisor_4 hC hK _ _ _ hf
def fX10_share_70 (f : pz_H) (s0 : Int32) : Option (Int32 × pz_H) :=
  some (s0, f)
theorem tX10_share_70 {G : pz_G} {C : pz_C} {f : pz_H} {s0 : Int32} {r : (Int32 × pz_H)} (hC : pz_OK G C cX10_share 6 RX10) (hK : pz_K C (some .int) 3 69 0 0) (hf : fX10_share_70 f s0 = some r) : pz_W G C 6 70 [] [.int s0] f 0 0 (pz_Q G C (some (.int r.1)) r.2 0 0) := by
  unfold fX10_share_70 at hf
  exact pz_iretw hC hK dX10_share_70 hf
def fX10_share_44 (f : pz_H) (l2 : Int32) (l3 : Int32) (s0 : Int32) : Option (Int32 × pz_H) :=
  (fnX10_divisor l3 s0).bind fun x1 =>
  if l2 = 0 then if x1 = 0 then none else
  fX10_share_70 f ((l3 / x1)) else
  if x1 = 0 then none else
  fX10_share_70 f ((s0 / x1))
theorem tX10_share_44 {G : pz_G} {C : pz_C} {f : pz_H} {l2 : Int32} {l3 : Int32} {s0 : Int32} {r : (Int32 × pz_H)} (hC : pz_OK G C cX10_share 6 RX10) (hK : pz_K C (some .int) 3 69 0 0) (hf : fX10_share_44 f l2 l3 s0 = some r) : pz_W G C 6 44 [(2, .int l2), (3, .int l3)] [.int s0] f 0 0 (pz_Q G C (some (.int r.1)) r.2 0 0) := by
  unfold fX10_share_44 at hf
  refine pz_istore hC dX10_share_44 (by decide) rfl ?_
  refine pz_iload_n hC dX10_share_46 2 rfl ?_
  refine pz_iload hC dX10_share_47 0 rfl ?_
  refine pz_Si (As := [.int l3, .int s0]) hC hK dX10_share_49 py_X10_divisor ps_X10_divisor lk_X10_175 hf (fun _ h => mX10_divisor h) rfl rfl (Nat.le_of_ble_eq_true rfl) ⟨by decide, by decide⟩ ⟨by decide, by decide⟩ (fun x1 hf => ?_)
  refine pz_istore hC dX10_share_52 (by decide) rfl ?_
  refine pz_iload_n hC dX10_share_54 2 rfl ?_
  refine pz_if_eq hC dX10_share_55 hf (fun _ hf => ?_) (fun _ hf => ?_)
  · refine pz_iload_n hC dX10_share_66 3 rfl ?_
    refine pz_iload hC dX10_share_67 0 rfl ?_
    refine pz_idiv hC dX10_share_69 hf (fun hf => ?_)
    refine pz_sub [] rfl ?_
    exact tX10_share_70 hC hK hf
  · refine pz_iload hC dX10_share_58 1 rfl ?_
    refine pz_iload hC dX10_share_60 0 rfl ?_
    refine pz_idiv hC dX10_share_62 hf (fun hf => ?_)
    refine pz_goto hC dX10_share_63 ?_
    refine pz_sub [] rfl ?_
    exact tX10_share_70 hC hK hf
def fnX10_share (f : pz_H) (a0 : Nat) (p1 : Int32) (p2 : Int32) : Option (Int32 × pz_H) :=
  (pz_is f a0 9).bind fun _ =>
  (pz_sV f a0 9 0 (.int (0 : Int32))).bind fun f1 =>
  (fnX10_isSpouse f1 a0 p1).bind fun x2 =>
  if x2 = 0 then some (((-1) : Int32), f1) else
  (fnX10_its f1 a0 p1 ((3 : Int32))).bind fun x3 =>
  (fnX10_wedIn f1 a0 p1).bind fun x4 =>
  if (x3 * x4) = 0 then fX10_share_44 f1 p2 ((x3 * x4)) ((1 : Int32)) else
  (fnX10_served f1 a0).bind fun x5 =>
  fX10_share_44 f1 p2 ((x3 * x4)) (((1000 : Int32) * x5))
theorem mX10_share {l : Launch} {G : pz_G} {f : pz_H} {a0 : Nat} {p1 : Int32} {p2 : Int32} {r : (Int32 × pz_H)} (hf : fnX10_share f a0 p1 p2 = some r) : pz_Met l G yX10_share cX10_share 6 (some .int) 3 69 0 0 [.ref a0, .int p1, .int p2] f (some (.int r.1)) r.2 ∧ pz_is f a0 9 = some () := by
  unfold fnX10_share at hf
  obtain ⟨_, h0, hf⟩ := pz_bd hf
  refine ⟨pz_enter (by decide +kernel) (Nat.le_of_ble_eq_true rfl) (fun C hl hC hK hnm => ?_), h0⟩
  subst hl
  refine pz_sub (lv' := [(0, .ref a0), (1, .int p1), (2, .int p2)]) [0, 1, 2] rfl ?_
  refine pz_aload_n hC dX10_share_0 0 rfl ?_
  refine pz_iconst (v := (0 : Int32)) hC dX10_share_1 (by decide) ?_
  refine pz_putV hC dX10_share_2 fp_X10_48 rfl rfl hf (fun f1 hf => ?_)
  refine pz_aload_n hC dX10_share_5 0 rfl ?_
  refine pz_iload_n hC dX10_share_6 1 rfl ?_
  refine pz_Vi (As := [.int p1]) hC hK dX10_share_7 py_X10_isSpouse pv_X10_isSpouse lk_X10_149 hf (fun _ h => mX10_isSpouse h) rfl rfl (Nat.le_of_ble_eq_true rfl) ⟨by decide, by decide⟩ ⟨by decide, by decide⟩ (fun x2 hf => ?_)
  refine pz_if_ne hC dX10_share_10 hf (fun _ hf => ?_) (fun _ hf => ?_)
  · refine pz_aload_n hC dX10_share_15 0 rfl ?_
    refine pz_iload_n hC dX10_share_16 1 rfl ?_
    refine pz_iconst (v := (3 : Int32)) hC dX10_share_17 (by decide) ?_
    refine pz_Vi (As := [.int p1, .int (3 : Int32)]) hC hK dX10_share_18 py_X10_its pv_X10_its lk_X10_56 hf (fun _ h => mX10_its h) rfl rfl (Nat.le_of_ble_eq_true rfl) ⟨by decide, by decide⟩ ⟨by decide, by decide⟩ (fun x3 hf => ?_)
    refine pz_aload_n hC dX10_share_21 0 rfl ?_
    refine pz_iload_n hC dX10_share_22 1 rfl ?_
    refine pz_Vi (As := [.int p1]) hC hK dX10_share_23 py_X10_wedIn pv_X10_wedIn lk_X10_98 hf (fun _ h => mX10_wedIn h) rfl rfl (Nat.le_of_ble_eq_true rfl) ⟨by decide, by decide⟩ ⟨by decide, by decide⟩ (fun x4 hf => ?_)
    refine pz_imul hC dX10_share_26 ?_
    refine pz_istore_n hC dX10_share_27 (by decide) rfl ?_
    refine pz_iload_n hC dX10_share_28 0 rfl ?_
    refine pz_if_ne hC dX10_share_29 hf (fun _ hf => ?_) (fun _ hf => ?_)
    · refine pz_sipush (v := (1000 : Int32)) hC dX10_share_36 (by decide) ?_
      refine pz_aload_n hC dX10_share_39 1 rfl ?_
      refine pz_Vi (As := []) hC hK dX10_share_40 py_X10_served pv_X10_served lk_X10_70 hf (fun _ h => mX10_served h) rfl rfl (Nat.le_of_ble_eq_true rfl) ⟨by decide, by decide⟩ ⟨by decide, by decide⟩ (fun x5 hf => ?_)
      refine pz_imul hC dX10_share_43 ?_
      refine pz_sub [3, 0] rfl ?_
      exact tX10_share_44 hC hK hf
    · refine pz_iconst (v := (1 : Int32)) hC dX10_share_32 (by decide) ?_
      refine pz_goto hC dX10_share_33 ?_
      refine pz_sub [3, 0] rfl ?_
      exact tX10_share_44 hC hK hf
  · refine pz_iconst (v := ((-1) : Int32)) hC dX10_share_13 (by decide) ?_
    exact pz_iretw hC hK dX10_share_14 hf
def fX10_happensIn_66 (f : pz_H) (l0 : Nat) (l4 : Int32) (l5 : Int32) : Option pz_H :=
  (pz_gR f l0 9 11).bind fun v1 =>
  (pz_tI f v1 0 l5 l4).bind fun f2 =>
  (pz_gI f2 l0 9 12).bind fun v3 =>
  (pz_sV f2 l0 9 12 (.int (v3 + (1 : Int32)))).bind fun f4 =>
  some f4
theorem tX10_happensIn_66 {G : pz_G} {C : pz_C} {f : pz_H} {l0 : Nat} {l4 : Int32} {l5 : Int32} {r : pz_H} (hC : pz_OK G C cX10_happensIn 6 RX10) (hK : pz_K C none 0 0 0 0) (hf : fX10_happensIn_66 f l0 l4 l5 = some r) : pz_W G C 6 66 [(0, .ref l0), (4, .int l4), (5, .int l5)] [] f 0 0 (pz_Q G C none r 0 0) := by
  unfold fX10_happensIn_66 at hf
  refine pz_aload_n hC dX10_happensIn_66 0 rfl ?_
  refine pz_getR hC dX10_happensIn_67 fa_X10_35 hf (fun v1 hf => ?_)
  refine pz_iload hC dX10_happensIn_70 2 rfl ?_
  refine pz_iload hC dX10_happensIn_72 1 rfl ?_
  refine pz_iast hC dX10_happensIn_74 hf (fun f2 hf => ?_)
  refine pz_aload_n hC dX10_happensIn_75 0 rfl ?_
  refine pz_dup hC dX10_happensIn_76 rfl ?_
  refine pz_getI hC dX10_happensIn_77 fa_X10_178 hf (fun v3 hf => ?_)
  refine pz_iconst (v := (1 : Int32)) hC dX10_happensIn_80 (by decide) ?_
  refine pz_iadd hC dX10_happensIn_81 ?_
  refine pz_putV hC dX10_happensIn_82 fp_X10_178 rfl rfl hf (fun f4 hf => ?_)
  exact pz_vret hC hK dX10_happensIn_85 hf
def fX10_happensIn_25b (k25 : pz_H → Nat → Int32 → Int32 → Option pz_H) (f : pz_H) (l0 : Nat) (l4 : Int32) (l5 : Int32) : Option pz_H :=
  if l5 ≤ 0 then fX10_happensIn_66 f l0 l4 l5 else
  (pz_gR f l0 9 11).bind fun v1 =>
  (pz_aI f v1 0 ((l5 - (1 : Int32)))).bind fun v2 =>
  if v2 ≤ l4 then fX10_happensIn_66 f l0 l4 l5 else
  (pz_gR f l0 9 11).bind fun v3 =>
  (pz_gR f l0 9 11).bind fun v4 =>
  (pz_aI f v4 0 ((l5 - (1 : Int32)))).bind fun v5 =>
  (pz_tI f v3 0 l5 v5).bind fun f6 =>
  k25 f6 l0 l4 ((l5 + (-1)))
theorem tX10_happensIn_25b {G : pz_G} {C : pz_C} {f : pz_H} {k25 : pz_H → Nat → Int32 → Int32 → Option pz_H} {l0 : Nat} {l4 : Int32} {l5 : Int32} {r : pz_H} (hC : pz_OK G C cX10_happensIn 6 RX10) (hK : pz_K C none 0 0 0 0) (hk25 : ∀ (g : pz_H) (a0 : Nat) (a4 : Int32) (a5 : Int32), k25 g a0 a4 a5 = some r → pz_W G C 6 25 [(0, .ref a0), (4, .int a4), (5, .int a5)] [] g 0 0 (pz_Q G C none r 0 0)) (hf : fX10_happensIn_25b k25 f l0 l4 l5 = some r) : pz_W G C 6 25 [(0, .ref l0), (4, .int l4), (5, .int l5)] [] f 0 0 (pz_Q G C none r 0 0) := by
  unfold fX10_happensIn_25b at hf
  refine pz_iload hC dX10_happensIn_25 2 rfl ?_
  refine pz_if_le hC dX10_happensIn_27 hf (fun _ hf => ?_) (fun _ hf => ?_)
  · exact tX10_happensIn_66 hC hK hf
  · refine pz_aload_n hC dX10_happensIn_30 0 rfl ?_
    refine pz_getR hC dX10_happensIn_31 fa_X10_35 hf (fun v1 hf => ?_)
    refine pz_iload hC dX10_happensIn_34 2 rfl ?_
    refine pz_iconst (v := (1 : Int32)) hC dX10_happensIn_36 (by decide) ?_
    refine pz_isub hC dX10_happensIn_37 ?_
    refine pz_iald hC dX10_happensIn_38 hf (fun v2 hf => ?_)
    refine pz_iload hC dX10_happensIn_39 1 rfl ?_
    refine pz_icmp_le hC dX10_happensIn_41 hf (fun _ hf => ?_) (fun _ hf => ?_)
    · exact tX10_happensIn_66 hC hK hf
    · refine pz_aload_n hC dX10_happensIn_44 0 rfl ?_
      refine pz_getR hC dX10_happensIn_45 fa_X10_35 hf (fun v3 hf => ?_)
      refine pz_iload hC dX10_happensIn_48 2 rfl ?_
      refine pz_aload_n hC dX10_happensIn_50 0 rfl ?_
      refine pz_getR hC dX10_happensIn_51 fa_X10_35 hf (fun v4 hf => ?_)
      refine pz_iload hC dX10_happensIn_54 2 rfl ?_
      refine pz_iconst (v := (1 : Int32)) hC dX10_happensIn_56 (by decide) ?_
      refine pz_isub hC dX10_happensIn_57 ?_
      refine pz_iald hC dX10_happensIn_58 hf (fun v5 hf => ?_)
      refine pz_iast hC dX10_happensIn_59 hf (fun f6 hf => ?_)
      refine pz_iinc (v := (l5 + (-1))) hC dX10_happensIn_60 2 rfl rfl (by decide) rfl ?_
      refine pz_goto hC dX10_happensIn_63 ?_
      refine pz_sub [1, 2, 0] rfl ?_
      exact hk25 _ _ _ _ hf
def fX10_happensIn_25 : Nat → pz_H → Nat → Int32 → Int32 → Option pz_H
  | 0, _, _, _, _ => none
  | n + 1, f, l0, l4, l5 => fX10_happensIn_25b (fX10_happensIn_25 n) f l0 l4 l5
theorem tX10_happensIn_25 {G : pz_G} {C : pz_C} {r : pz_H} (hC : pz_OK G C cX10_happensIn 6 RX10) (hK : pz_K C none 0 0 0 0) : ∀ (N : Nat) (f : pz_H) (l0 : Nat) (l4 : Int32) (l5 : Int32), fX10_happensIn_25 N f l0 l4 l5 = some r → pz_W G C 6 25 [(0, .ref l0), (4, .int l4), (5, .int l5)] [] f 0 0 (pz_Q G C none r 0 0) := by
  intro N
  induction N with
  | zero => intro f l0 l4 l5 hf; cases hf
  | succ N ih => intro f l0 l4 l5 hf; exact tX10_happensIn_25b hC hK (fun f l0 l4 l5 hf => ih f l0 l4 l5 hf) hf
def fnX10_happensIn (f : pz_H) (a0 : Nat) (p1 : Int32) (p2 : Int32) (p3 : Int32) : Option pz_H :=
  (pz_is f a0 9).bind fun _ =>
  if p1 = ((-1) : Int32) then some f else
  (pz_gI f a0 9 12).bind fun v1 =>
  fX10_happensIn_25 pz_F f a0 (((((100 : Int32) * p1) + ((10 : Int32) * p2)) + p3)) v1
theorem mX10_happensIn {l : Launch} {G : pz_G} {f : pz_H} {a0 : Nat} {p1 : Int32} {p2 : Int32} {p3 : Int32} {r : pz_H} (hf : fnX10_happensIn f a0 p1 p2 p3 = some r) : pz_Met l G yX10_happensIn cX10_happensIn 6 none 0 0 0 0 [.ref a0, .int p1, .int p2, .int p3] f none r ∧ pz_is f a0 9 = some () := by
  unfold fnX10_happensIn at hf
  obtain ⟨_, h0, hf⟩ := pz_bd hf
  refine ⟨pz_enter (by decide +kernel) (Nat.le_of_ble_eq_true rfl) (fun C hl hC hK hnm => ?_), h0⟩
  subst hl
  refine pz_sub (lv' := [(0, .ref a0), (1, .int p1), (2, .int p2), (3, .int p3)]) [0, 1, 2, 3] rfl ?_
  refine pz_iload_n hC dX10_happensIn_0 1 rfl ?_
  refine pz_iconst (v := ((-1) : Int32)) hC dX10_happensIn_1 (by decide) ?_
  refine pz_icmp_ne hC dX10_happensIn_2 hf (fun _ hf => ?_) (fun _ hf => ?_)
  · refine pz_bipush (v := (100 : Int32)) hC dX10_happensIn_6 (by decide) ?_
    refine pz_iload_n hC dX10_happensIn_8 1 rfl ?_
    refine pz_imul hC dX10_happensIn_9 ?_
    refine pz_bipush (v := (10 : Int32)) hC dX10_happensIn_10 (by decide) ?_
    refine pz_iload_n hC dX10_happensIn_12 2 rfl ?_
    refine pz_imul hC dX10_happensIn_13 ?_
    refine pz_iadd hC dX10_happensIn_14 ?_
    refine pz_iload_n hC dX10_happensIn_15 3 rfl ?_
    refine pz_iadd hC dX10_happensIn_16 ?_
    refine pz_istore hC dX10_happensIn_17 (by decide) rfl ?_
    refine pz_aload_n hC dX10_happensIn_19 1 rfl ?_
    refine pz_getI hC dX10_happensIn_20 fa_X10_178 hf (fun v1 hf => ?_)
    refine pz_istore hC dX10_happensIn_23 (by decide) rfl ?_
    refine pz_sub [2, 1, 0] rfl ?_
    exact tX10_happensIn_25 hC hK _ _ _ _ _ hf
  · exact pz_vret hC hK dX10_happensIn_5 hf
def fX10_happens_106 (k54 : pz_H → Nat → Int32 → Int32 → Option (Int32 × pz_H)) (f : pz_H) (l0 : Nat) (l1 : Int32) (l2 : Int32) (s0 : Int32) (s1 : Nat) : Option (Int32 × pz_H) :=
  (fnX10_happensIn f s1 s0 ((5 : Int32)) l2).bind fun x1 =>
  (fnX10_its x1 l0 l2 ((7 : Int32))).bind fun x2 =>
  (fnX10_happensIn x1 l0 x2 ((6 : Int32)) l2).bind fun x3 =>
  k54 x3 l0 l1 ((l2 + 1))
theorem tX10_happens_106 {G : pz_G} {C : pz_C} {f : pz_H} {k54 : pz_H → Nat → Int32 → Int32 → Option (Int32 × pz_H)} {l0 : Nat} {l1 : Int32} {l2 : Int32} {s0 : Int32} {s1 : Nat} {r : (Int32 × pz_H)} (hC : pz_OK G C cX10_happens 3 RX10) (hK : pz_K C (some .int) 2 43 0 0) (hk54 : ∀ (g : pz_H) (a0 : Nat) (a1 : Int32) (a2 : Int32), k54 g a0 a1 a2 = some r → pz_W G C 3 54 [(0, .ref a0), (1, .int a1), (2, .int a2)] [] g 0 0 (pz_Q G C (some (.int r.1)) r.2 0 0)) (hf : fX10_happens_106 k54 f l0 l1 l2 s0 s1 = some r) : pz_W G C 3 106 [(0, .ref l0), (1, .int l1), (2, .int l2)] [.int s0, .ref s1] f 0 0 (pz_Q G C (some (.int r.1)) r.2 0 0) := by
  unfold fX10_happens_106 at hf
  refine pz_iconst (v := (5 : Int32)) hC dX10_happens_106 (by decide) ?_
  refine pz_iload_n hC dX10_happens_107 2 rfl ?_
  refine pz_Vv (As := [.int s0, .int (5 : Int32), .int l2]) hC hK dX10_happens_108 py_X10_happensIn pv_X10_happensIn lk_X10_181 hf (fun _ h => mX10_happensIn h) rfl rfl (Nat.le_of_ble_eq_true rfl) ⟨by decide, by decide⟩ ⟨by decide, by decide⟩ (fun x1 hf => ?_)
  refine pz_aload_n hC dX10_happens_111 0 rfl ?_
  refine pz_aload_n hC dX10_happens_112 0 rfl ?_
  refine pz_iload_n hC dX10_happens_113 2 rfl ?_
  refine pz_bipush (v := (7 : Int32)) hC dX10_happens_114 (by decide) ?_
  refine pz_Vi (As := [.int l2, .int (7 : Int32)]) hC hK dX10_happens_116 py_X10_its pv_X10_its lk_X10_56 hf (fun _ h => mX10_its h) rfl rfl (Nat.le_of_ble_eq_true rfl) ⟨by decide, by decide⟩ ⟨by decide, by decide⟩ (fun x2 hf => ?_)
  refine pz_bipush (v := (6 : Int32)) hC dX10_happens_119 (by decide) ?_
  refine pz_iload_n hC dX10_happens_121 2 rfl ?_
  refine pz_Vv (As := [.int x2, .int (6 : Int32), .int l2]) hC hK dX10_happens_122 py_X10_happensIn pv_X10_happensIn lk_X10_181 hf (fun _ h => mX10_happensIn h) rfl rfl (Nat.le_of_ble_eq_true rfl) ⟨by decide, by decide⟩ ⟨by decide, by decide⟩ (fun x3 hf => ?_)
  refine pz_iinc (v := (l2 + 1)) hC dX10_happens_125 2 rfl rfl (by decide) rfl ?_
  refine pz_goto hC dX10_happens_128 ?_
  refine pz_sub [1, 2, 0] rfl ?_
  exact hk54 _ _ _ _ hf
def fX10_happens_180 (f : pz_H) (s0 : Int32) : Option (Int32 × pz_H) :=
  some (s0, f)
theorem tX10_happens_180 {G : pz_G} {C : pz_C} {f : pz_H} {s0 : Int32} {r : (Int32 × pz_H)} (hC : pz_OK G C cX10_happens 3 RX10) (hK : pz_K C (some .int) 2 43 0 0) (hf : fX10_happens_180 f s0 = some r) : pz_W G C 3 180 [] [.int s0] f 0 0 (pz_Q G C (some (.int r.1)) r.2 0 0) := by
  unfold fX10_happens_180 at hf
  exact pz_iretw hC hK dX10_happens_180 hf
def fX10_happens_54b (k54 : pz_H → Nat → Int32 → Int32 → Option (Int32 × pz_H)) (f : pz_H) (l0 : Nat) (l1 : Int32) (l2 : Int32) : Option (Int32 × pz_H) :=
  (pz_gR f l0 9 1).bind fun v1 =>
  (pz_aI f v1 0 ((4 : Int32))).bind fun v2 =>
  if v2 ≤ l2 then (pz_gR f l0 9 1).bind fun v3 =>
  (pz_aI f v3 0 ((1 : Int32))).bind fun v4 =>
  (fnX10_happensIn f l0 v4 ((4 : Int32)) ((0 : Int32))).bind fun x5 =>
  (pz_gR x5 l0 9 1).bind fun v6 =>
  (pz_aI x5 v6 0 ((2 : Int32))).bind fun v7 =>
  (fnX10_happensIn x5 l0 v7 ((7 : Int32)) ((0 : Int32))).bind fun x8 =>
  (pz_gI x8 l0 9 12).bind fun v9 =>
  (fnX10_in l1 ((0 : Int32)) ((v9 - (1 : Int32)))).bind fun x10 =>
  if x10 = 0 then fX10_happens_180 x8 (((-1) : Int32)) else
  (pz_gR x8 l0 9 11).bind fun v11 =>
  (pz_aI x8 v11 0 l1).bind fun v12 =>
  fX10_happens_180 x8 v12 else
  (fnX10_its f l0 l2 ((1 : Int32))).bind fun x13 =>
  (fnX10_happensIn f l0 x13 ((2 : Int32)) l2).bind fun x14 =>
  (fnX10_its x14 l0 l2 ((2 : Int32))).bind fun x15 =>
  (fnX10_happensIn x14 l0 x15 ((3 : Int32)) l2).bind fun x16 =>
  (fnX10_isParted x16 l0 l2).bind fun x17 =>
  if x17 = 0 then fX10_happens_106 k54 x16 l0 l1 l2 (((-1) : Int32)) l0 else
  (fnX10_begin x16 l0 l2).bind fun x18 =>
  fX10_happens_106 k54 x16 l0 l1 l2 x18 l0
theorem tX10_happens_54b {G : pz_G} {C : pz_C} {f : pz_H} {k54 : pz_H → Nat → Int32 → Int32 → Option (Int32 × pz_H)} {l0 : Nat} {l1 : Int32} {l2 : Int32} {r : (Int32 × pz_H)} (hC : pz_OK G C cX10_happens 3 RX10) (hK : pz_K C (some .int) 2 43 0 0) (hk54 : ∀ (g : pz_H) (a0 : Nat) (a1 : Int32) (a2 : Int32), k54 g a0 a1 a2 = some r → pz_W G C 3 54 [(0, .ref a0), (1, .int a1), (2, .int a2)] [] g 0 0 (pz_Q G C (some (.int r.1)) r.2 0 0)) (hf : fX10_happens_54b k54 f l0 l1 l2 = some r) : pz_W G C 3 54 [(0, .ref l0), (1, .int l1), (2, .int l2)] [] f 0 0 (pz_Q G C (some (.int r.1)) r.2 0 0) := by
  unfold fX10_happens_54b at hf
  refine pz_iload_n hC dX10_happens_54 2 rfl ?_
  refine pz_aload_n hC dX10_happens_55 0 rfl ?_
  refine pz_getR hC dX10_happens_56 fa_X10_7 hf (fun v1 hf => ?_)
  refine pz_iconst (v := (4 : Int32)) hC dX10_happens_59 (by decide) ?_
  refine pz_iald hC dX10_happens_60 hf (fun v2 hf => ?_)
  refine pz_icmp_ge hC dX10_happens_61 hf (fun _ hf => ?_) (fun _ hf => ?_)
  · refine pz_aload_n hC dX10_happens_131 0 rfl ?_
    refine pz_aload_n hC dX10_happens_132 0 rfl ?_
    refine pz_getR hC dX10_happens_133 fa_X10_7 hf (fun v3 hf => ?_)
    refine pz_iconst (v := (1 : Int32)) hC dX10_happens_136 (by decide) ?_
    refine pz_iald hC dX10_happens_137 hf (fun v4 hf => ?_)
    refine pz_iconst (v := (4 : Int32)) hC dX10_happens_138 (by decide) ?_
    refine pz_iconst (v := (0 : Int32)) hC dX10_happens_139 (by decide) ?_
    refine pz_Vv (As := [.int v4, .int (4 : Int32), .int (0 : Int32)]) hC hK dX10_happens_140 py_X10_happensIn pv_X10_happensIn lk_X10_181 hf (fun _ h => mX10_happensIn h) rfl rfl (Nat.le_of_ble_eq_true rfl) ⟨by decide, by decide⟩ ⟨by decide, by decide⟩ (fun x5 hf => ?_)
    refine pz_aload_n hC dX10_happens_143 0 rfl ?_
    refine pz_aload_n hC dX10_happens_144 0 rfl ?_
    refine pz_getR hC dX10_happens_145 fa_X10_7 hf (fun v6 hf => ?_)
    refine pz_iconst (v := (2 : Int32)) hC dX10_happens_148 (by decide) ?_
    refine pz_iald hC dX10_happens_149 hf (fun v7 hf => ?_)
    refine pz_bipush (v := (7 : Int32)) hC dX10_happens_150 (by decide) ?_
    refine pz_iconst (v := (0 : Int32)) hC dX10_happens_152 (by decide) ?_
    refine pz_Vv (As := [.int v7, .int (7 : Int32), .int (0 : Int32)]) hC hK dX10_happens_153 py_X10_happensIn pv_X10_happensIn lk_X10_181 hf (fun _ h => mX10_happensIn h) rfl rfl (Nat.le_of_ble_eq_true rfl) ⟨by decide, by decide⟩ ⟨by decide, by decide⟩ (fun x8 hf => ?_)
    refine pz_iload_n hC dX10_happens_156 1 rfl ?_
    refine pz_iconst (v := (0 : Int32)) hC dX10_happens_157 (by decide) ?_
    refine pz_aload_n hC dX10_happens_158 0 rfl ?_
    refine pz_getI hC dX10_happens_159 fa_X10_178 hf (fun v9 hf => ?_)
    refine pz_iconst (v := (1 : Int32)) hC dX10_happens_162 (by decide) ?_
    refine pz_isub hC dX10_happens_163 ?_
    refine pz_Si (As := [.int l1, .int (0 : Int32), .int (v9 - (1 : Int32))]) hC hK dX10_happens_164 py_X10_in ps_X10_in lk_X10_52 hf (fun _ h => mX10_in h) rfl rfl (Nat.le_of_ble_eq_true rfl) ⟨by decide, by decide⟩ ⟨by decide, by decide⟩ (fun x10 hf => ?_)
    refine pz_if_eq hC dX10_happens_167 hf (fun _ hf => ?_) (fun _ hf => ?_)
    · refine pz_iconst (v := ((-1) : Int32)) hC dX10_happens_179 (by decide) ?_
      refine pz_sub [] rfl ?_
      exact tX10_happens_180 hC hK hf
    · refine pz_aload_n hC dX10_happens_170 0 rfl ?_
      refine pz_getR hC dX10_happens_171 fa_X10_35 hf (fun v11 hf => ?_)
      refine pz_iload_n hC dX10_happens_174 1 rfl ?_
      refine pz_iald hC dX10_happens_175 hf (fun v12 hf => ?_)
      refine pz_goto hC dX10_happens_176 ?_
      refine pz_sub [] rfl ?_
      exact tX10_happens_180 hC hK hf
  · refine pz_aload_n hC dX10_happens_64 0 rfl ?_
    refine pz_aload_n hC dX10_happens_65 0 rfl ?_
    refine pz_iload_n hC dX10_happens_66 2 rfl ?_
    refine pz_iconst (v := (1 : Int32)) hC dX10_happens_67 (by decide) ?_
    refine pz_Vi (As := [.int l2, .int (1 : Int32)]) hC hK dX10_happens_68 py_X10_its pv_X10_its lk_X10_56 hf (fun _ h => mX10_its h) rfl rfl (Nat.le_of_ble_eq_true rfl) ⟨by decide, by decide⟩ ⟨by decide, by decide⟩ (fun x13 hf => ?_)
    refine pz_iconst (v := (2 : Int32)) hC dX10_happens_71 (by decide) ?_
    refine pz_iload_n hC dX10_happens_72 2 rfl ?_
    refine pz_Vv (As := [.int x13, .int (2 : Int32), .int l2]) hC hK dX10_happens_73 py_X10_happensIn pv_X10_happensIn lk_X10_181 hf (fun _ h => mX10_happensIn h) rfl rfl (Nat.le_of_ble_eq_true rfl) ⟨by decide, by decide⟩ ⟨by decide, by decide⟩ (fun x14 hf => ?_)
    refine pz_aload_n hC dX10_happens_76 0 rfl ?_
    refine pz_aload_n hC dX10_happens_77 0 rfl ?_
    refine pz_iload_n hC dX10_happens_78 2 rfl ?_
    refine pz_iconst (v := (2 : Int32)) hC dX10_happens_79 (by decide) ?_
    refine pz_Vi (As := [.int l2, .int (2 : Int32)]) hC hK dX10_happens_80 py_X10_its pv_X10_its lk_X10_56 hf (fun _ h => mX10_its h) rfl rfl (Nat.le_of_ble_eq_true rfl) ⟨by decide, by decide⟩ ⟨by decide, by decide⟩ (fun x15 hf => ?_)
    refine pz_iconst (v := (3 : Int32)) hC dX10_happens_83 (by decide) ?_
    refine pz_iload_n hC dX10_happens_84 2 rfl ?_
    refine pz_Vv (As := [.int x15, .int (3 : Int32), .int l2]) hC hK dX10_happens_85 py_X10_happensIn pv_X10_happensIn lk_X10_181 hf (fun _ h => mX10_happensIn h) rfl rfl (Nat.le_of_ble_eq_true rfl) ⟨by decide, by decide⟩ ⟨by decide, by decide⟩ (fun x16 hf => ?_)
    refine pz_aload_n hC dX10_happens_88 0 rfl ?_
    refine pz_aload_n hC dX10_happens_89 0 rfl ?_
    refine pz_iload_n hC dX10_happens_90 2 rfl ?_
    refine pz_Vi (As := [.int l2]) hC hK dX10_happens_91 py_X10_isParted pv_X10_isParted lk_X10_91 hf (fun _ h => mX10_isParted h) rfl rfl (Nat.le_of_ble_eq_true rfl) ⟨by decide, by decide⟩ ⟨by decide, by decide⟩ (fun x17 hf => ?_)
    refine pz_if_eq hC dX10_happens_94 hf (fun _ hf => ?_) (fun _ hf => ?_)
    · refine pz_iconst (v := ((-1) : Int32)) hC dX10_happens_105 (by decide) ?_
      exact tX10_happens_106 hC hK hk54 hf
    · refine pz_aload_n hC dX10_happens_97 0 rfl ?_
      refine pz_iload_n hC dX10_happens_98 2 rfl ?_
      refine pz_Vi (As := [.int l2]) hC hK dX10_happens_99 py_X10_begin pv_X10_begin lk_X10_121 hf (fun _ h => mX10_begin h) rfl rfl (Nat.le_of_ble_eq_true rfl) ⟨by decide, by decide⟩ ⟨by decide, by decide⟩ (fun x18 hf => ?_)
      refine pz_goto hC dX10_happens_102 ?_
      exact tX10_happens_106 hC hK hk54 hf
def fX10_happens_54 : Nat → pz_H → Nat → Int32 → Int32 → Option (Int32 × pz_H)
  | 0, _, _, _, _ => none
  | n + 1, f, l0, l1, l2 => fX10_happens_54b (fX10_happens_54 n) f l0 l1 l2
theorem tX10_happens_54 {G : pz_G} {C : pz_C} {r : (Int32 × pz_H)} (hC : pz_OK G C cX10_happens 3 RX10) (hK : pz_K C (some .int) 2 43 0 0) : ∀ (N : Nat) (f : pz_H) (l0 : Nat) (l1 : Int32) (l2 : Int32), fX10_happens_54 N f l0 l1 l2 = some r → pz_W G C 3 54 [(0, .ref l0), (1, .int l1), (2, .int l2)] [] f 0 0 (pz_Q G C (some (.int r.1)) r.2 0 0) := by
  intro N
  induction N with
  | zero => intro f l0 l1 l2 hf; cases hf
  | succ N ih => intro f l0 l1 l2 hf; exact tX10_happens_54b hC hK (fun f l0 l1 l2 hf => ih f l0 l1 l2 hf) hf
def fX10_happens_12b (k12 : pz_H → Nat → Int32 → Int32 → Option (Int32 × pz_H)) (f : pz_H) (l0 : Nat) (l1 : Int32) (l2 : Int32) : Option (Int32 × pz_H) :=
  (pz_gR f l0 9 1).bind fun v1 =>
  (pz_aI f v1 0 ((3 : Int32))).bind fun v2 =>
  if v2 ≤ l2 then fX10_happens_54 pz_F f l0 l1 ((0 : Int32)) else
  (fnX10_spanOf f l0 l2 ((0 : Int32))).bind fun x3 =>
  (fnX10_happensIn f l0 x3 ((0 : Int32)) l2).bind fun x4 =>
  (fnX10_spanOf x4 l0 l2 ((1 : Int32))).bind fun x5 =>
  (fnX10_happensIn x4 l0 x5 ((1 : Int32)) l2).bind fun x6 =>
  k12 x6 l0 l1 ((l2 + 1))
theorem tX10_happens_12b {G : pz_G} {C : pz_C} {f : pz_H} {k12 : pz_H → Nat → Int32 → Int32 → Option (Int32 × pz_H)} {l0 : Nat} {l1 : Int32} {l2 : Int32} {r : (Int32 × pz_H)} (hC : pz_OK G C cX10_happens 3 RX10) (hK : pz_K C (some .int) 2 43 0 0) (hk12 : ∀ (g : pz_H) (a0 : Nat) (a1 : Int32) (a2 : Int32), k12 g a0 a1 a2 = some r → pz_W G C 3 12 [(0, .ref a0), (1, .int a1), (2, .int a2)] [] g 0 0 (pz_Q G C (some (.int r.1)) r.2 0 0)) (hf : fX10_happens_12b k12 f l0 l1 l2 = some r) : pz_W G C 3 12 [(0, .ref l0), (1, .int l1), (2, .int l2)] [] f 0 0 (pz_Q G C (some (.int r.1)) r.2 0 0) := by
  unfold fX10_happens_12b at hf
  refine pz_iload_n hC dX10_happens_12 2 rfl ?_
  refine pz_aload_n hC dX10_happens_13 0 rfl ?_
  refine pz_getR hC dX10_happens_14 fa_X10_7 hf (fun v1 hf => ?_)
  refine pz_iconst (v := (3 : Int32)) hC dX10_happens_17 (by decide) ?_
  refine pz_iald hC dX10_happens_18 hf (fun v2 hf => ?_)
  refine pz_icmp_ge hC dX10_happens_19 hf (fun _ hf => ?_) (fun _ hf => ?_)
  · refine pz_iconst (v := (0 : Int32)) hC dX10_happens_52 (by decide) ?_
    refine pz_istore_n hC dX10_happens_53 (by decide) rfl ?_
    refine pz_sub [1, 2, 0] rfl ?_
    exact tX10_happens_54 hC hK _ _ _ _ _ hf
  · refine pz_aload_n hC dX10_happens_22 0 rfl ?_
    refine pz_aload_n hC dX10_happens_23 0 rfl ?_
    refine pz_iload_n hC dX10_happens_24 2 rfl ?_
    refine pz_iconst (v := (0 : Int32)) hC dX10_happens_25 (by decide) ?_
    refine pz_Vi (As := [.int l2, .int (0 : Int32)]) hC hK dX10_happens_26 py_X10_spanOf pv_X10_spanOf lk_X10_60 hf (fun _ h => mX10_spanOf h) rfl rfl (Nat.le_of_ble_eq_true rfl) ⟨by decide, by decide⟩ ⟨by decide, by decide⟩ (fun x3 hf => ?_)
    refine pz_iconst (v := (0 : Int32)) hC dX10_happens_29 (by decide) ?_
    refine pz_iload_n hC dX10_happens_30 2 rfl ?_
    refine pz_Vv (As := [.int x3, .int (0 : Int32), .int l2]) hC hK dX10_happens_31 py_X10_happensIn pv_X10_happensIn lk_X10_181 hf (fun _ h => mX10_happensIn h) rfl rfl (Nat.le_of_ble_eq_true rfl) ⟨by decide, by decide⟩ ⟨by decide, by decide⟩ (fun x4 hf => ?_)
    refine pz_aload_n hC dX10_happens_34 0 rfl ?_
    refine pz_aload_n hC dX10_happens_35 0 rfl ?_
    refine pz_iload_n hC dX10_happens_36 2 rfl ?_
    refine pz_iconst (v := (1 : Int32)) hC dX10_happens_37 (by decide) ?_
    refine pz_Vi (As := [.int l2, .int (1 : Int32)]) hC hK dX10_happens_38 py_X10_spanOf pv_X10_spanOf lk_X10_60 hf (fun _ h => mX10_spanOf h) rfl rfl (Nat.le_of_ble_eq_true rfl) ⟨by decide, by decide⟩ ⟨by decide, by decide⟩ (fun x5 hf => ?_)
    refine pz_iconst (v := (1 : Int32)) hC dX10_happens_41 (by decide) ?_
    refine pz_iload_n hC dX10_happens_42 2 rfl ?_
    refine pz_Vv (As := [.int x5, .int (1 : Int32), .int l2]) hC hK dX10_happens_43 py_X10_happensIn pv_X10_happensIn lk_X10_181 hf (fun _ h => mX10_happensIn h) rfl rfl (Nat.le_of_ble_eq_true rfl) ⟨by decide, by decide⟩ ⟨by decide, by decide⟩ (fun x6 hf => ?_)
    refine pz_iinc (v := (l2 + 1)) hC dX10_happens_46 2 rfl rfl (by decide) rfl ?_
    refine pz_goto hC dX10_happens_49 ?_
    refine pz_sub [1, 2, 0] rfl ?_
    exact hk12 _ _ _ _ hf
def fX10_happens_12 : Nat → pz_H → Nat → Int32 → Int32 → Option (Int32 × pz_H)
  | 0, _, _, _, _ => none
  | n + 1, f, l0, l1, l2 => fX10_happens_12b (fX10_happens_12 n) f l0 l1 l2
theorem tX10_happens_12 {G : pz_G} {C : pz_C} {r : (Int32 × pz_H)} (hC : pz_OK G C cX10_happens 3 RX10) (hK : pz_K C (some .int) 2 43 0 0) : ∀ (N : Nat) (f : pz_H) (l0 : Nat) (l1 : Int32) (l2 : Int32), fX10_happens_12 N f l0 l1 l2 = some r → pz_W G C 3 12 [(0, .ref l0), (1, .int l1), (2, .int l2)] [] f 0 0 (pz_Q G C (some (.int r.1)) r.2 0 0) := by
  intro N
  induction N with
  | zero => intro f l0 l1 l2 hf; cases hf
  | succ N ih => intro f l0 l1 l2 hf; exact tX10_happens_12b hC hK (fun f l0 l1 l2 hf => ih f l0 l1 l2 hf) hf
def fnX10_happens (f : pz_H) (a0 : Nat) (p1 : Int32) : Option (Int32 × pz_H) :=
  (pz_is f a0 9).bind fun _ =>
  (pz_sV f a0 9 0 (.int (0 : Int32))).bind fun f1 =>
  (pz_sV f1 a0 9 12 (.int (0 : Int32))).bind fun f2 =>
  fX10_happens_12 pz_F f2 a0 p1 ((0 : Int32))
theorem mX10_happens {l : Launch} {G : pz_G} {f : pz_H} {a0 : Nat} {p1 : Int32} {r : (Int32 × pz_H)} (hf : fnX10_happens f a0 p1 = some r) : pz_Met l G yX10_happens cX10_happens 3 (some .int) 2 43 0 0 [.ref a0, .int p1] f (some (.int r.1)) r.2 ∧ pz_is f a0 9 = some () := by
  unfold fnX10_happens at hf
  obtain ⟨_, h0, hf⟩ := pz_bd hf
  refine ⟨pz_enter (by decide +kernel) (Nat.le_of_ble_eq_true rfl) (fun C hl hC hK hnm => ?_), h0⟩
  subst hl
  refine pz_sub (lv' := [(0, .ref a0), (1, .int p1)]) [0, 1] rfl ?_
  refine pz_aload_n hC dX10_happens_0 0 rfl ?_
  refine pz_iconst (v := (0 : Int32)) hC dX10_happens_1 (by decide) ?_
  refine pz_putV hC dX10_happens_2 fp_X10_48 rfl rfl hf (fun f1 hf => ?_)
  refine pz_aload_n hC dX10_happens_5 0 rfl ?_
  refine pz_iconst (v := (0 : Int32)) hC dX10_happens_6 (by decide) ?_
  refine pz_putV hC dX10_happens_7 fp_X10_178 rfl rfl hf (fun f2 hf => ?_)
  refine pz_iconst (v := (0 : Int32)) hC dX10_happens_10 (by decide) ?_
  refine pz_istore_n hC dX10_happens_11 (by decide) rfl ?_
  refine pz_sub [1, 2, 0] rfl ?_
  exact tX10_happens_12 hC hK _ _ _ _ _ hf
def fX10_lives_18 (f : pz_H) (s0 : Int32) : Option (Int32 × pz_H) :=
  some (s0, f)
theorem tX10_lives_18 {G : pz_G} {C : pz_C} {f : pz_H} {s0 : Int32} {r : (Int32 × pz_H)} (hC : pz_OK G C cX10_lives 2 RX10) (hK : pz_K C (some .int) 1 28 0 0) (hf : fX10_lives_18 f s0 = some r) : pz_W G C 2 18 [] [.int s0] f 0 0 (pz_Q G C (some (.int r.1)) r.2 0 0) := by
  unfold fX10_lives_18 at hf
  exact pz_iretw hC hK dX10_lives_18 hf
def fnX10_lives (f : pz_H) (a0 : Nat) (p1 : Int32) : Option (Int32 × pz_H) :=
  (pz_is f a0 9).bind fun _ =>
  (pz_sV f a0 9 0 (.int (0 : Int32))).bind fun f1 =>
  if 0 ≤ p1 then (fnX10_livesAt f1 a0 p1).bind fun x2 =>
  fX10_lives_18 f1 x2 else
  fX10_lives_18 f1 (((-1) : Int32))
theorem mX10_lives {l : Launch} {G : pz_G} {f : pz_H} {a0 : Nat} {p1 : Int32} {r : (Int32 × pz_H)} (hf : fnX10_lives f a0 p1 = some r) : pz_Met l G yX10_lives cX10_lives 2 (some .int) 1 28 0 0 [.ref a0, .int p1] f (some (.int r.1)) r.2 ∧ pz_is f a0 9 = some () := by
  unfold fnX10_lives at hf
  obtain ⟨_, h0, hf⟩ := pz_bd hf
  refine ⟨pz_enter (by decide +kernel) (Nat.le_of_ble_eq_true rfl) (fun C hl hC hK hnm => ?_), h0⟩
  subst hl
  refine pz_sub (lv' := [(0, .ref a0), (1, .int p1)]) [0, 1] rfl ?_
  refine pz_aload_n hC dX10_lives_0 0 rfl ?_
  refine pz_iconst (v := (0 : Int32)) hC dX10_lives_1 (by decide) ?_
  refine pz_putV hC dX10_lives_2 fp_X10_48 rfl rfl hf (fun f1 hf => ?_)
  refine pz_iload_n hC dX10_lives_5 1 rfl ?_
  refine pz_if_ge hC dX10_lives_6 hf (fun _ hf => ?_) (fun _ hf => ?_)
  · refine pz_aload_n hC dX10_lives_13 0 rfl ?_
    refine pz_iload_n hC dX10_lives_14 1 rfl ?_
    refine pz_Vi (As := [.int p1]) hC hK dX10_lives_15 py_X10_livesAt pv_X10_livesAt lk_X10_106 hf (fun _ h => mX10_livesAt h) rfl rfl (Nat.le_of_ble_eq_true rfl) ⟨by decide, by decide⟩ ⟨by decide, by decide⟩ (fun x2 hf => ?_)
    refine pz_sub [] rfl ?_
    exact tX10_lives_18 hC hK hf
  · refine pz_iconst (v := ((-1) : Int32)) hC dX10_lives_9 (by decide) ?_
    refine pz_goto hC dX10_lives_10 ?_
    refine pz_sub [] rfl ?_
    exact tX10_lives_18 hC hK hf
def fnX10_discount (f : pz_H) (a0 : Nat) (p1 : Int32) : Option (Int32 × pz_H) :=
  (pz_is f a0 9).bind fun _ =>
  (pz_sV f a0 9 0 (.int (0 : Int32))).bind fun f1 =>
  (fnX10_isMonth p1).bind fun x2 =>
  if x2 = 0 then some (((-1) : Int32), f1) else
  (fnX10_laysWholes f1 a0).bind fun x3 =>
  (pz_gR x3 a0 9 7).bind fun v4 =>
  (pz_aL x3 v4 1 p1).bind fun v5 =>
  some (v5.toInt32, x3)
theorem mX10_discount {l : Launch} {G : pz_G} {f : pz_H} {a0 : Nat} {p1 : Int32} {r : (Int32 × pz_H)} (hf : fnX10_discount f a0 p1 = some r) : pz_Met l G yX10_discount cX10_discount 2 (some .int) 6 135 0 0 [.ref a0, .int p1] f (some (.int r.1)) r.2 ∧ pz_is f a0 9 = some () := by
  unfold fnX10_discount at hf
  obtain ⟨_, h0, hf⟩ := pz_bd hf
  refine ⟨pz_enter (by decide +kernel) (Nat.le_of_ble_eq_true rfl) (fun C hl hC hK hnm => ?_), h0⟩
  subst hl
  refine pz_sub (lv' := [(0, .ref a0), (1, .int p1)]) [0, 1] rfl ?_
  refine pz_aload_n hC dX10_discount_0 0 rfl ?_
  refine pz_iconst (v := (0 : Int32)) hC dX10_discount_1 (by decide) ?_
  refine pz_putV hC dX10_discount_2 fp_X10_48 rfl rfl hf (fun f1 hf => ?_)
  refine pz_iload_n hC dX10_discount_5 1 rfl ?_
  refine pz_Si (As := [.int p1]) hC hK dX10_discount_6 py_X10_isMonth ps_X10_isMonth lk_X10_155 hf (fun _ h => mX10_isMonth h) rfl rfl (Nat.le_of_ble_eq_true rfl) ⟨by decide, by decide⟩ ⟨by decide, by decide⟩ (fun x2 hf => ?_)
  refine pz_if_ne hC dX10_discount_9 hf (fun _ hf => ?_) (fun _ hf => ?_)
  · refine pz_aload_n hC dX10_discount_14 0 rfl ?_
    refine pz_Vv (As := []) hC hK dX10_discount_15 py_X10_laysWholes pv_X10_laysWholes lk_X10_95 hf (fun _ h => mX10_laysWholes h) rfl rfl (Nat.le_of_ble_eq_true rfl) ⟨by decide, by decide⟩ ⟨by decide, by decide⟩ (fun x3 hf => ?_)
    refine pz_aload_n hC dX10_discount_18 0 rfl ?_
    refine pz_getR hC dX10_discount_19 fa_X10_23 hf (fun v4 hf => ?_)
    refine pz_iload_n hC dX10_discount_22 1 rfl ?_
    refine pz_lald hC dX10_discount_23 hf (fun v5 hf => ?_)
    refine pz_l2i hC dX10_discount_24 ?_
    exact pz_iretw hC hK dX10_discount_25 hf
  · refine pz_iconst (v := ((-1) : Int32)) hC dX10_discount_12 (by decide) ?_
    exact pz_iretw hC hK dX10_discount_13 hf
def fX10_annuity_41 (f : pz_H) : Option (Int64 × pz_H) :=
  some (((-1) : Int64), f)
theorem tX10_annuity_41 {G : pz_G} {C : pz_C} {f : pz_H} {r : (Int64 × pz_H)} (hC : pz_OK G C cX10_annuity 4 RX10) (hK : pz_K C (some .long) 7 161 0 0) (hf : fX10_annuity_41 f = some r) : pz_W G C 4 41 [] [] f 0 0 (pz_Q G C (some (.long r.1)) r.2 0 0) := by
  unfold fX10_annuity_41 at hf
  refine pz_ldc2 hC dX10_annuity_41 ck_X10_185 ?_
  exact pz_lretw hC hK dX10_annuity_44 hf
def fnX10_annuity (f : pz_H) (a0 : Nat) (p1 : Int32) (p2 : Int32) (p3 : Int32) : Option (Int64 × pz_H) :=
  (pz_is f a0 9).bind fun _ =>
  (pz_sV f a0 9 0 (.int (0 : Int32))).bind fun f1 =>
  (fnX10_isWho f1 a0 p1).bind fun x2 =>
  if x2 = 0 then fX10_annuity_41 f1 else
  (fnX10_isMonth p2).bind fun x3 =>
  if x3 = 0 then fX10_annuity_41 f1 else
  (fnX10_isMonth p3).bind fun x4 =>
  if x4 = 0 then fX10_annuity_41 f1 else
  if p3 < p2 then fX10_annuity_41 f1 else
  (fnX10_bornOf f1 a0 p1).bind fun x5 =>
  if x5 ≤ p2 then (pz_gR f1 a0 9 8).bind fun v6 =>
  (fnX10_laysOdds f1 a0 v6 p1 p2).bind fun x7 =>
  (pz_gR x7 a0 9 8).bind fun v8 =>
  (fnX10_annuityBy x7 a0 v8 p2 p3).bind fun x9 =>
  some (x9.1, x9.2) else
  fX10_annuity_41 f1
theorem mX10_annuity {l : Launch} {G : pz_G} {f : pz_H} {a0 : Nat} {p1 : Int32} {p2 : Int32} {p3 : Int32} {r : (Int64 × pz_H)} (hf : fnX10_annuity f a0 p1 p2 p3 = some r) : pz_Met l G yX10_annuity cX10_annuity 4 (some .long) 7 161 0 0 [.ref a0, .int p1, .int p2, .int p3] f (some (.long r.1)) r.2 ∧ pz_is f a0 9 = some () := by
  unfold fnX10_annuity at hf
  obtain ⟨_, h0, hf⟩ := pz_bd hf
  refine ⟨pz_enter (by decide +kernel) (Nat.le_of_ble_eq_true rfl) (fun C hl hC hK hnm => ?_), h0⟩
  subst hl
  refine pz_sub (lv' := [(0, .ref a0), (1, .int p1), (2, .int p2), (3, .int p3)]) [0, 1, 2, 3] rfl ?_
  refine pz_aload_n hC dX10_annuity_0 0 rfl ?_
  refine pz_iconst (v := (0 : Int32)) hC dX10_annuity_1 (by decide) ?_
  refine pz_putV hC dX10_annuity_2 fp_X10_48 rfl rfl hf (fun f1 hf => ?_)
  refine pz_aload_n hC dX10_annuity_5 0 rfl ?_
  refine pz_iload_n hC dX10_annuity_6 1 rfl ?_
  refine pz_Vi (As := [.int p1]) hC hK dX10_annuity_7 py_X10_isWho pv_X10_isWho lk_X10_158 hf (fun _ h => mX10_isWho h) rfl rfl (Nat.le_of_ble_eq_true rfl) ⟨by decide, by decide⟩ ⟨by decide, by decide⟩ (fun x2 hf => ?_)
  refine pz_if_eq hC dX10_annuity_10 hf (fun _ hf => ?_) (fun _ hf => ?_)
  · refine pz_sub [] rfl ?_
    exact tX10_annuity_41 hC hK hf
  · refine pz_iload_n hC dX10_annuity_13 2 rfl ?_
    refine pz_Si (As := [.int p2]) hC hK dX10_annuity_14 py_X10_isMonth ps_X10_isMonth lk_X10_155 hf (fun _ h => mX10_isMonth h) rfl rfl (Nat.le_of_ble_eq_true rfl) ⟨by decide, by decide⟩ ⟨by decide, by decide⟩ (fun x3 hf => ?_)
    refine pz_if_eq hC dX10_annuity_17 hf (fun _ hf => ?_) (fun _ hf => ?_)
    · refine pz_sub [] rfl ?_
      exact tX10_annuity_41 hC hK hf
    · refine pz_iload_n hC dX10_annuity_20 3 rfl ?_
      refine pz_Si (As := [.int p3]) hC hK dX10_annuity_21 py_X10_isMonth ps_X10_isMonth lk_X10_155 hf (fun _ h => mX10_isMonth h) rfl rfl (Nat.le_of_ble_eq_true rfl) ⟨by decide, by decide⟩ ⟨by decide, by decide⟩ (fun x4 hf => ?_)
      refine pz_if_eq hC dX10_annuity_24 hf (fun _ hf => ?_) (fun _ hf => ?_)
      · refine pz_sub [] rfl ?_
        exact tX10_annuity_41 hC hK hf
      · refine pz_iload_n hC dX10_annuity_27 3 rfl ?_
        refine pz_iload_n hC dX10_annuity_28 2 rfl ?_
        refine pz_icmp_lt hC dX10_annuity_29 hf (fun _ hf => ?_) (fun _ hf => ?_)
        · refine pz_sub [] rfl ?_
          exact tX10_annuity_41 hC hK hf
        · refine pz_aload_n hC dX10_annuity_32 0 rfl ?_
          refine pz_iload_n hC dX10_annuity_33 1 rfl ?_
          refine pz_Vi (As := [.int p1]) hC hK dX10_annuity_34 py_X10_bornOf pv_X10_bornOf lk_X10_103 hf (fun _ h => mX10_bornOf h) rfl rfl (Nat.le_of_ble_eq_true rfl) ⟨by decide, by decide⟩ ⟨by decide, by decide⟩ (fun x5 hf => ?_)
          refine pz_iload_n hC dX10_annuity_37 2 rfl ?_
          refine pz_icmp_le hC dX10_annuity_38 hf (fun _ hf => ?_) (fun _ hf => ?_)
          · refine pz_aload_n hC dX10_annuity_45 0 rfl ?_
            refine pz_aload_n hC dX10_annuity_46 0 rfl ?_
            refine pz_getR hC dX10_annuity_47 fa_X10_26 hf (fun v6 hf => ?_)
            refine pz_iload_n hC dX10_annuity_50 1 rfl ?_
            refine pz_iload_n hC dX10_annuity_51 2 rfl ?_
            refine pz_Vv (As := [.ref v6, .int p1, .int p2]) hC hK dX10_annuity_52 py_X10_laysOdds pv_X10_laysOdds lk_X10_113 hf (fun _ h => mX10_laysOdds h) rfl rfl (Nat.le_of_ble_eq_true rfl) ⟨by decide, by decide⟩ ⟨by decide, by decide⟩ (fun x7 hf => ?_)
            refine pz_aload_n hC dX10_annuity_55 0 rfl ?_
            refine pz_aload_n hC dX10_annuity_56 0 rfl ?_
            refine pz_getR hC dX10_annuity_57 fa_X10_26 hf (fun v8 hf => ?_)
            refine pz_iload_n hC dX10_annuity_60 2 rfl ?_
            refine pz_iload_n hC dX10_annuity_61 3 rfl ?_
            refine pz_Vlw (As := [.ref v8, .int p2, .int p3]) hC hK dX10_annuity_62 py_X10_annuityBy pv_X10_annuityBy lk_X10_117 hf (fun _ h => mX10_annuityBy h) rfl rfl (Nat.le_of_ble_eq_true rfl) ⟨by decide, by decide⟩ ⟨by decide, by decide⟩ (fun x9 hf => ?_)
            exact pz_lretw hC hK dX10_annuity_65 hf
          · refine pz_sub [] rfl ?_
            exact tX10_annuity_41 hC hK hf
def fX10_own_34 (f : pz_H) (s0 : Int64) : Option (Int64 × pz_H) :=
  some (s0, f)
theorem tX10_own_34 {G : pz_G} {C : pz_C} {f : pz_H} {s0 : Int64} {r : (Int64 × pz_H)} (hC : pz_OK G C cX10_own 2 RX10) (hK : pz_K C (some .long) 9 209 0 0) (hf : fX10_own_34 f s0 = some r) : pz_W G C 2 34 [] [.long s0] f 0 0 (pz_Q G C (some (.long r.1)) r.2 0 0) := by
  unfold fX10_own_34 at hf
  exact pz_lretw hC hK dX10_own_34 hf
def fX10_own_31 (f : pz_H) : Option (Int64 × pz_H) :=
  fX10_own_34 f (((-1) : Int64))
theorem tX10_own_31 {G : pz_G} {C : pz_C} {f : pz_H} {r : (Int64 × pz_H)} (hC : pz_OK G C cX10_own 2 RX10) (hK : pz_K C (some .long) 9 209 0 0) (hf : fX10_own_31 f = some r) : pz_W G C 2 31 [] [] f 0 0 (pz_Q G C (some (.long r.1)) r.2 0 0) := by
  unfold fX10_own_31 at hf
  refine pz_ldc2 hC dX10_own_31 ck_X10_185 ?_
  exact tX10_own_34 hC hK hf
def fnX10_own (f : pz_H) (a0 : Nat) (p1 : Int32) : Option (Int64 × pz_H) :=
  (pz_is f a0 9).bind fun _ =>
  (pz_sV f a0 9 0 (.int (0 : Int32))).bind fun f1 =>
  (fnX10_isSpouse f1 a0 p1).bind fun x2 =>
  if x2 = 0 then fX10_own_31 f1 else
  (pz_gR f1 a0 9 1).bind fun v3 =>
  (pz_aI f1 v3 0 ((1 : Int32))).bind fun v4 =>
  if v4 = ((-1) : Int32) then fX10_own_31 f1 else
  (fnX10_ownOf f1 a0 p1).bind fun x5 =>
  fX10_own_34 x5.2 x5.1
theorem mX10_own {l : Launch} {G : pz_G} {f : pz_H} {a0 : Nat} {p1 : Int32} {r : (Int64 × pz_H)} (hf : fnX10_own f a0 p1 = some r) : pz_Met l G yX10_own cX10_own 2 (some .long) 9 209 0 0 [.ref a0, .int p1] f (some (.long r.1)) r.2 ∧ pz_is f a0 9 = some () := by
  unfold fnX10_own at hf
  obtain ⟨_, h0, hf⟩ := pz_bd hf
  refine ⟨pz_enter (by decide +kernel) (Nat.le_of_ble_eq_true rfl) (fun C hl hC hK hnm => ?_), h0⟩
  subst hl
  refine pz_sub (lv' := [(0, .ref a0), (1, .int p1)]) [0, 1] rfl ?_
  refine pz_aload_n hC dX10_own_0 0 rfl ?_
  refine pz_iconst (v := (0 : Int32)) hC dX10_own_1 (by decide) ?_
  refine pz_putV hC dX10_own_2 fp_X10_48 rfl rfl hf (fun f1 hf => ?_)
  refine pz_aload_n hC dX10_own_5 0 rfl ?_
  refine pz_iload_n hC dX10_own_6 1 rfl ?_
  refine pz_Vi (As := [.int p1]) hC hK dX10_own_7 py_X10_isSpouse pv_X10_isSpouse lk_X10_149 hf (fun _ h => mX10_isSpouse h) rfl rfl (Nat.le_of_ble_eq_true rfl) ⟨by decide, by decide⟩ ⟨by decide, by decide⟩ (fun x2 hf => ?_)
  refine pz_if_eq hC dX10_own_10 hf (fun _ hf => ?_) (fun _ hf => ?_)
  · refine pz_sub [] rfl ?_
    exact tX10_own_31 hC hK hf
  · refine pz_aload_n hC dX10_own_13 0 rfl ?_
    refine pz_getR hC dX10_own_14 fa_X10_7 hf (fun v3 hf => ?_)
    refine pz_iconst (v := (1 : Int32)) hC dX10_own_17 (by decide) ?_
    refine pz_iald hC dX10_own_18 hf (fun v4 hf => ?_)
    refine pz_iconst (v := ((-1) : Int32)) hC dX10_own_19 (by decide) ?_
    refine pz_icmp_eq hC dX10_own_20 hf (fun _ hf => ?_) (fun _ hf => ?_)
    · refine pz_sub [] rfl ?_
      exact tX10_own_31 hC hK hf
    · refine pz_aload_n hC dX10_own_23 0 rfl ?_
      refine pz_iload_n hC dX10_own_24 1 rfl ?_
      refine pz_Vlw (As := [.int p1]) hC hK dX10_own_25 py_X10_ownOf pv_X10_ownOf lk_X10_132 hf (fun _ h => mX10_ownOf h) rfl rfl (Nat.le_of_ble_eq_true rfl) ⟨by decide, by decide⟩ ⟨by decide, by decide⟩ (fun x5 hf => ?_)
      refine pz_goto hC dX10_own_28 ?_
      refine pz_sub [] rfl ?_
      exact tX10_own_34 hC hK hf
def fX10_worthIn_124 (k27 : pz_H → Nat → Int32 → Int32 → Int64 → Int64 → Int32 → Option (Int64 × pz_H)) (f : pz_H) (l0 : Nat) (l1 : Int32) (l2 : Int32) (l3 : Int64) (l6 : Int64) (l8 : Int32) (l11 : Int64) : Option (Int64 × pz_H) :=
  (pz_gR f l0 9 7).bind fun v1 =>
  (pz_aL f v1 1 ((l8 - l2))).bind fun v2 =>
  k27 f l0 l1 l2 l3 ((l6 + ((v2 * l11) / (1000000000 : Int64)))) ((l8 + 1))
theorem tX10_worthIn_124 {G : pz_G} {C : pz_C} {f : pz_H} {k27 : pz_H → Nat → Int32 → Int32 → Int64 → Int64 → Int32 → Option (Int64 × pz_H)} {l0 : Nat} {l1 : Int32} {l2 : Int32} {l3 : Int64} {l6 : Int64} {l8 : Int32} {l11 : Int64} {r : (Int64 × pz_H)} (hC : pz_OK G C cX10_worthIn 17 RX10) (hK : pz_K C (some .long) 7 158 0 0) (hk27 : ∀ (g : pz_H) (a0 : Nat) (a1 : Int32) (a2 : Int32) (a3 : Int64) (a6 : Int64) (a8 : Int32), k27 g a0 a1 a2 a3 a6 a8 = some r → pz_W G C 17 27 [(0, .ref a0), (1, .int a1), (2, .int a2), (3, .long a3), (6, .long a6), (8, .int a8)] [] g 0 0 (pz_Q G C (some (.long r.1)) r.2 0 0)) (hf : fX10_worthIn_124 k27 f l0 l1 l2 l3 l6 l8 l11 = some r) : pz_W G C 17 124 [(0, .ref l0), (1, .int l1), (2, .int l2), (3, .long l3), (6, .long l6), (8, .int l8), (11, .long l11)] [] f 0 0 (pz_Q G C (some (.long r.1)) r.2 0 0) := by
  unfold fX10_worthIn_124 at hf
  refine pz_lload hC dX10_worthIn_124 4 rfl ?_
  refine pz_aload_n hC dX10_worthIn_126 0 rfl ?_
  refine pz_getR hC dX10_worthIn_127 fa_X10_23 hf (fun v1 hf => ?_)
  refine pz_iload hC dX10_worthIn_130 5 rfl ?_
  refine pz_iload_n hC dX10_worthIn_132 2 rfl ?_
  refine pz_isub hC dX10_worthIn_133 ?_
  refine pz_lald hC dX10_worthIn_134 hf (fun v2 hf => ?_)
  refine pz_lload hC dX10_worthIn_135 6 rfl ?_
  refine pz_lmul hC dX10_worthIn_137 ?_
  refine pz_ldc2 hC dX10_worthIn_138 ck_X10_87 ?_
  refine pz_ldivc hC dX10_worthIn_141 (by decide) ?_
  refine pz_ladd hC dX10_worthIn_142 ?_
  refine pz_lstore hC dX10_worthIn_143 (by decide) rfl ?_
  refine pz_iinc (v := (l8 + 1)) hC dX10_worthIn_145 5 rfl rfl (by decide) rfl ?_
  refine pz_goto hC dX10_worthIn_148 ?_
  refine pz_sub [2, 3, 4, 5, 1, 0] rfl ?_
  exact hk27 _ _ _ _ _ _ _ hf
def fX10_worthIn_27b (k27 : pz_H → Nat → Int32 → Int32 → Int64 → Int64 → Int32 → Option (Int64 × pz_H)) (f : pz_H) (l0 : Nat) (l1 : Int32) (l2 : Int32) (l3 : Int64) (l6 : Int64) (l8 : Int32) : Option (Int64 × pz_H) :=
  if (1800 : Int32) ≤ l8 then some (l6, f) else
  (pz_gR f l0 9 9).bind fun v1 =>
  (pz_aL f v1 1 l8).bind fun v2 =>
  (fnX10_its f l0 l1 ((4 : Int32))).bind fun x3 =>
  if x3 = (1 : Int32) then fX10_worthIn_124 k27 f l0 l1 l2 l3 l6 l8 (((l3 * v2) / (1000000000 : Int64))) else
  (pz_gR f l0 9 8).bind fun v4 =>
  (pz_aL f v4 1 l8).bind fun v5 =>
  (fnX10_shareIn f l0 l1 l8).bind fun x6 =>
  (fnX10_its x6.2 l0 l1 ((5 : Int32))).bind fun x7 =>
  fX10_worthIn_124 k27 x6.2 l0 l1 l2 l3 l6 l8 ((((x6.1 * ((v5 * v2) / (1000000000 : Int64))) + (((x6.1 * x7.toInt64) / (1000 : Int64)) * (v2 - ((v5 * v2) / (1000000000 : Int64))))) / (1000000000 : Int64)))
theorem tX10_worthIn_27b {G : pz_G} {C : pz_C} {f : pz_H} {k27 : pz_H → Nat → Int32 → Int32 → Int64 → Int64 → Int32 → Option (Int64 × pz_H)} {l0 : Nat} {l1 : Int32} {l2 : Int32} {l3 : Int64} {l6 : Int64} {l8 : Int32} {r : (Int64 × pz_H)} (hC : pz_OK G C cX10_worthIn 17 RX10) (hK : pz_K C (some .long) 7 158 0 0) (hk27 : ∀ (g : pz_H) (a0 : Nat) (a1 : Int32) (a2 : Int32) (a3 : Int64) (a6 : Int64) (a8 : Int32), k27 g a0 a1 a2 a3 a6 a8 = some r → pz_W G C 17 27 [(0, .ref a0), (1, .int a1), (2, .int a2), (3, .long a3), (6, .long a6), (8, .int a8)] [] g 0 0 (pz_Q G C (some (.long r.1)) r.2 0 0)) (hf : fX10_worthIn_27b k27 f l0 l1 l2 l3 l6 l8 = some r) : pz_W G C 17 27 [(0, .ref l0), (1, .int l1), (2, .int l2), (3, .long l3), (6, .long l6), (8, .int l8)] [] f 0 0 (pz_Q G C (some (.long r.1)) r.2 0 0) := by
  unfold fX10_worthIn_27b at hf
  refine pz_iload hC dX10_worthIn_27 5 rfl ?_
  refine pz_sipush (v := (1800 : Int32)) hC dX10_worthIn_29 (by decide) ?_
  refine pz_icmp_ge hC dX10_worthIn_32 hf (fun _ hf => ?_) (fun _ hf => ?_)
  · refine pz_lload hC dX10_worthIn_151 4 rfl ?_
    exact pz_lretw hC hK dX10_worthIn_153 hf
  · refine pz_aload_n hC dX10_worthIn_35 0 rfl ?_
    refine pz_getR hC dX10_worthIn_36 fa_X10_29 hf (fun v1 hf => ?_)
    refine pz_iload hC dX10_worthIn_39 5 rfl ?_
    refine pz_lald hC dX10_worthIn_41 hf (fun v2 hf => ?_)
    refine pz_lstore hC dX10_worthIn_42 (by decide) rfl ?_
    refine pz_aload_n hC dX10_worthIn_44 1 rfl ?_
    refine pz_iload_n hC dX10_worthIn_45 2 rfl ?_
    refine pz_iconst (v := (4 : Int32)) hC dX10_worthIn_46 (by decide) ?_
    refine pz_Vi (As := [.int l1, .int (4 : Int32)]) hC hK dX10_worthIn_47 py_X10_its pv_X10_its lk_X10_56 hf (fun _ h => mX10_its h) rfl rfl (Nat.le_of_ble_eq_true rfl) ⟨by decide, by decide⟩ ⟨by decide, by decide⟩ (fun x3 hf => ?_)
    refine pz_iconst (v := (1 : Int32)) hC dX10_worthIn_50 (by decide) ?_
    refine pz_icmp_ne hC dX10_worthIn_51 hf (fun _ hf => ?_) (fun _ hf => ?_)
    · refine pz_aload_n hC dX10_worthIn_67 1 rfl ?_
      refine pz_getR hC dX10_worthIn_68 fa_X10_26 hf (fun v4 hf => ?_)
      refine pz_iload hC dX10_worthIn_71 6 rfl ?_
      refine pz_lald hC dX10_worthIn_73 hf (fun v5 hf => ?_)
      refine pz_lload hC dX10_worthIn_74 0 rfl ?_
      refine pz_lmul hC dX10_worthIn_76 ?_
      refine pz_ldc2 hC dX10_worthIn_77 ck_X10_87 ?_
      refine pz_ldivc hC dX10_worthIn_80 (by decide) ?_
      refine pz_lstore hC dX10_worthIn_81 (by decide) rfl ?_
      refine pz_aload_n hC dX10_worthIn_83 2 rfl ?_
      refine pz_iload_n hC dX10_worthIn_84 3 rfl ?_
      refine pz_iload hC dX10_worthIn_85 7 rfl ?_
      refine pz_Vlw (As := [.int l1, .int l8]) hC hK dX10_worthIn_87 py_X10_shareIn pv_X10_shareIn lk_X10_128 hf (fun _ h => mX10_shareIn h) rfl rfl (Nat.le_of_ble_eq_true rfl) ⟨by decide, by decide⟩ ⟨by decide, by decide⟩ (fun x6 hf => ?_)
      refine pz_lstore hC dX10_worthIn_90 (by decide) rfl ?_
      refine pz_lload hC dX10_worthIn_92 0 rfl ?_
      refine pz_lload hC dX10_worthIn_94 1 rfl ?_
      refine pz_lmul hC dX10_worthIn_96 ?_
      refine pz_lload hC dX10_worthIn_97 0 rfl ?_
      refine pz_aload_n hC dX10_worthIn_99 3 rfl ?_
      refine pz_iload_n hC dX10_worthIn_100 4 rfl ?_
      refine pz_iconst (v := (5 : Int32)) hC dX10_worthIn_101 (by decide) ?_
      refine pz_Vi (As := [.int l1, .int (5 : Int32)]) hC hK dX10_worthIn_102 py_X10_its pv_X10_its lk_X10_56 hf (fun _ h => mX10_its h) rfl rfl (Nat.le_of_ble_eq_true rfl) ⟨by decide, by decide⟩ ⟨by decide, by decide⟩ (fun x7 hf => ?_)
      refine pz_i2l hC dX10_worthIn_105 ?_
      refine pz_lmul hC dX10_worthIn_106 ?_
      refine pz_ldc2 hC dX10_worthIn_107 ck_X10_78 ?_
      refine pz_ldivc hC dX10_worthIn_110 (by decide) ?_
      refine pz_lload hC dX10_worthIn_111 2 rfl ?_
      refine pz_lload hC dX10_worthIn_113 1 rfl ?_
      refine pz_lsub hC dX10_worthIn_115 ?_
      refine pz_lmul hC dX10_worthIn_116 ?_
      refine pz_ladd hC dX10_worthIn_117 ?_
      refine pz_ldc2 hC dX10_worthIn_118 ck_X10_87 ?_
      refine pz_ldivc hC dX10_worthIn_121 (by decide) ?_
      refine pz_lstore hC dX10_worthIn_122 (by decide) rfl ?_
      refine pz_sub [4, 5, 6, 7, 8, 9, 0] rfl ?_
      exact tX10_worthIn_124 hC hK hk27 hf
    · refine pz_lload_n hC dX10_worthIn_54 4 rfl ?_
      refine pz_lload hC dX10_worthIn_55 0 rfl ?_
      refine pz_lmul hC dX10_worthIn_57 ?_
      refine pz_ldc2 hC dX10_worthIn_58 ck_X10_87 ?_
      refine pz_ldivc hC dX10_worthIn_61 (by decide) ?_
      refine pz_lstore hC dX10_worthIn_62 (by decide) rfl ?_
      refine pz_goto hC dX10_worthIn_64 ?_
      refine pz_sub [2, 3, 4, 5, 6, 7, 0] rfl ?_
      exact tX10_worthIn_124 hC hK hk27 hf
def fX10_worthIn_27 : Nat → pz_H → Nat → Int32 → Int32 → Int64 → Int64 → Int32 → Option (Int64 × pz_H)
  | 0, _, _, _, _, _, _, _ => none
  | n + 1, f, l0, l1, l2, l3, l6, l8 => fX10_worthIn_27b (fX10_worthIn_27 n) f l0 l1 l2 l3 l6 l8
theorem tX10_worthIn_27 {G : pz_G} {C : pz_C} {r : (Int64 × pz_H)} (hC : pz_OK G C cX10_worthIn 17 RX10) (hK : pz_K C (some .long) 7 158 0 0) : ∀ (N : Nat) (f : pz_H) (l0 : Nat) (l1 : Int32) (l2 : Int32) (l3 : Int64) (l6 : Int64) (l8 : Int32), fX10_worthIn_27 N f l0 l1 l2 l3 l6 l8 = some r → pz_W G C 17 27 [(0, .ref l0), (1, .int l1), (2, .int l2), (3, .long l3), (6, .long l6), (8, .int l8)] [] f 0 0 (pz_Q G C (some (.long r.1)) r.2 0 0) := by
  intro N
  induction N with
  | zero => intro f l0 l1 l2 l3 l6 l8 hf; cases hf
  | succ N ih => intro f l0 l1 l2 l3 l6 l8 hf; exact tX10_worthIn_27b hC hK (fun f l0 l1 l2 l3 l6 l8 hf => ih f l0 l1 l2 l3 l6 l8 hf) hf
def fX10_worthIn_18 (f : pz_H) (l0 : Nat) (l1 : Int32) (l2 : Int32) (l3 : Int64) (s0 : Int32) : Option (Int64 × pz_H) :=
  fX10_worthIn_27 pz_F f l0 l1 l2 l3 ((0 : Int64)) s0
theorem tX10_worthIn_18 {G : pz_G} {C : pz_C} {f : pz_H} {l0 : Nat} {l1 : Int32} {l2 : Int32} {l3 : Int64} {s0 : Int32} {r : (Int64 × pz_H)} (hC : pz_OK G C cX10_worthIn 17 RX10) (hK : pz_K C (some .long) 7 158 0 0) (hf : fX10_worthIn_18 f l0 l1 l2 l3 s0 = some r) : pz_W G C 17 18 [(0, .ref l0), (1, .int l1), (2, .int l2), (3, .long l3)] [.int s0] f 0 0 (pz_Q G C (some (.long r.1)) r.2 0 0) := by
  unfold fX10_worthIn_18 at hf
  refine pz_istore hC dX10_worthIn_18 (by decide) rfl ?_
  refine pz_lconst (v := 0) hC dX10_worthIn_20 (by decide) ?_
  refine pz_lstore hC dX10_worthIn_21 (by decide) rfl ?_
  refine pz_iload hC dX10_worthIn_23 1 rfl ?_
  refine pz_istore hC dX10_worthIn_25 (by decide) rfl ?_
  refine pz_sub [3, 4, 5, 6, 1, 0] rfl ?_
  exact tX10_worthIn_27 hC hK _ _ _ _ _ _ _ _ hf
def fnX10_worthIn (f : pz_H) (a0 : Nat) (p1 : Int32) (p2 : Int32) (p3 : Int64) : Option (Int64 × pz_H) :=
  (pz_is f a0 9).bind fun _ =>
  (fnX10_begin f a0 p1).bind fun x1 =>
  if x1 ≤ p2 then fX10_worthIn_18 f a0 p1 p2 p3 p2 else
  (fnX10_begin f a0 p1).bind fun x2 =>
  fX10_worthIn_18 f a0 p1 p2 p3 x2
theorem mX10_worthIn {l : Launch} {G : pz_G} {f : pz_H} {a0 : Nat} {p1 : Int32} {p2 : Int32} {p3 : Int64} {r : (Int64 × pz_H)} (hf : fnX10_worthIn f a0 p1 p2 p3 = some r) : pz_Met l G yX10_worthIn cX10_worthIn 17 (some .long) 7 158 0 0 [.ref a0, .int p1, .int p2, .long p3] f (some (.long r.1)) r.2 ∧ pz_is f a0 9 = some () := by
  unfold fnX10_worthIn at hf
  obtain ⟨_, h0, hf⟩ := pz_bd hf
  refine ⟨pz_enter (by decide +kernel) (Nat.le_of_ble_eq_true rfl) (fun C hl hC hK hnm => ?_), h0⟩
  subst hl
  refine pz_sub (lv' := [(0, .ref a0), (1, .int p1), (2, .int p2), (3, .long p3)]) [0, 1, 2, 3] rfl ?_
  refine pz_aload_n hC dX10_worthIn_0 0 rfl ?_
  refine pz_iload_n hC dX10_worthIn_1 1 rfl ?_
  refine pz_Vi (As := [.int p1]) hC hK dX10_worthIn_2 py_X10_begin pv_X10_begin lk_X10_121 hf (fun _ h => mX10_begin h) rfl rfl (Nat.le_of_ble_eq_true rfl) ⟨by decide, by decide⟩ ⟨by decide, by decide⟩ (fun x1 hf => ?_)
  refine pz_iload_n hC dX10_worthIn_5 2 rfl ?_
  refine pz_icmp_le hC dX10_worthIn_6 hf (fun _ hf => ?_) (fun _ hf => ?_)
  · refine pz_iload_n hC dX10_worthIn_17 2 rfl ?_
    exact tX10_worthIn_18 hC hK hf
  · refine pz_aload_n hC dX10_worthIn_9 0 rfl ?_
    refine pz_iload_n hC dX10_worthIn_10 1 rfl ?_
    refine pz_Vi (As := [.int p1]) hC hK dX10_worthIn_11 py_X10_begin pv_X10_begin lk_X10_121 hf (fun _ h => mX10_begin h) rfl rfl (Nat.le_of_ble_eq_true rfl) ⟨by decide, by decide⟩ ⟨by decide, by decide⟩ (fun x2 hf => ?_)
    refine pz_goto hC dX10_worthIn_14 ?_
    exact tX10_worthIn_18 hC hK hf
def fnX10_worthOfSpouse (f : pz_H) (a0 : Nat) (p1 : Int32) (p2 : Int32) : Option (Int64 × pz_H) :=
  (pz_is f a0 9).bind fun _ =>
  (fnX10_laysWholes f a0).bind fun x1 =>
  (fnX10_ownOf x1 a0 p1).bind fun x2 =>
  (pz_gR x2.2 a0 9 8).bind fun v3 =>
  (fnX10_laysOdds x2.2 a0 v3 ((10 : Int32)) p2).bind fun x4 =>
  (pz_gR x4 a0 9 9).bind fun v5 =>
  (fnX10_laysOdds x4 a0 v5 p1 p2).bind fun x6 =>
  (fnX10_worthIn x6 a0 p1 p2 x2.1).bind fun x7 =>
  some (x7.1, x7.2)
theorem mX10_worthOfSpouse {l : Launch} {G : pz_G} {f : pz_H} {a0 : Nat} {p1 : Int32} {p2 : Int32} {r : (Int64 × pz_H)} (hf : fnX10_worthOfSpouse f a0 p1 p2 = some r) : pz_Met l G yX10_worthOfSpouse cX10_worthOfSpouse 5 (some .long) 9 209 0 0 [.ref a0, .int p1, .int p2] f (some (.long r.1)) r.2 ∧ pz_is f a0 9 = some () := by
  unfold fnX10_worthOfSpouse at hf
  obtain ⟨_, h0, hf⟩ := pz_bd hf
  refine ⟨pz_enter (by decide +kernel) (Nat.le_of_ble_eq_true rfl) (fun C hl hC hK hnm => ?_), h0⟩
  subst hl
  refine pz_sub (lv' := [(0, .ref a0), (1, .int p1), (2, .int p2)]) [0, 1, 2] rfl ?_
  refine pz_aload_n hC dX10_worthOfSpouse_0 0 rfl ?_
  refine pz_Vv (As := []) hC hK dX10_worthOfSpouse_1 py_X10_laysWholes pv_X10_laysWholes lk_X10_95 hf (fun _ h => mX10_laysWholes h) rfl rfl (Nat.le_of_ble_eq_true rfl) ⟨by decide, by decide⟩ ⟨by decide, by decide⟩ (fun x1 hf => ?_)
  refine pz_aload_n hC dX10_worthOfSpouse_4 0 rfl ?_
  refine pz_iload_n hC dX10_worthOfSpouse_5 1 rfl ?_
  refine pz_Vlw (As := [.int p1]) hC hK dX10_worthOfSpouse_6 py_X10_ownOf pv_X10_ownOf lk_X10_132 hf (fun _ h => mX10_ownOf h) rfl rfl (Nat.le_of_ble_eq_true rfl) ⟨by decide, by decide⟩ ⟨by decide, by decide⟩ (fun x2 hf => ?_)
  refine pz_lstore_n hC dX10_worthOfSpouse_9 (by decide) rfl ?_
  refine pz_aload_n hC dX10_worthOfSpouse_10 1 rfl ?_
  refine pz_aload_n hC dX10_worthOfSpouse_11 1 rfl ?_
  refine pz_getR hC dX10_worthOfSpouse_12 fa_X10_26 hf (fun v3 hf => ?_)
  refine pz_bipush (v := (10 : Int32)) hC dX10_worthOfSpouse_15 (by decide) ?_
  refine pz_iload_n hC dX10_worthOfSpouse_17 3 rfl ?_
  refine pz_Vv (As := [.ref v3, .int (10 : Int32), .int p2]) hC hK dX10_worthOfSpouse_18 py_X10_laysOdds pv_X10_laysOdds lk_X10_113 hf (fun _ h => mX10_laysOdds h) rfl rfl (Nat.le_of_ble_eq_true rfl) ⟨by decide, by decide⟩ ⟨by decide, by decide⟩ (fun x4 hf => ?_)
  refine pz_aload_n hC dX10_worthOfSpouse_21 1 rfl ?_
  refine pz_aload_n hC dX10_worthOfSpouse_22 1 rfl ?_
  refine pz_getR hC dX10_worthOfSpouse_23 fa_X10_29 hf (fun v5 hf => ?_)
  refine pz_iload_n hC dX10_worthOfSpouse_26 2 rfl ?_
  refine pz_iload_n hC dX10_worthOfSpouse_27 3 rfl ?_
  refine pz_Vv (As := [.ref v5, .int p1, .int p2]) hC hK dX10_worthOfSpouse_28 py_X10_laysOdds pv_X10_laysOdds lk_X10_113 hf (fun _ h => mX10_laysOdds h) rfl rfl (Nat.le_of_ble_eq_true rfl) ⟨by decide, by decide⟩ ⟨by decide, by decide⟩ (fun x6 hf => ?_)
  refine pz_aload_n hC dX10_worthOfSpouse_31 1 rfl ?_
  refine pz_iload_n hC dX10_worthOfSpouse_32 2 rfl ?_
  refine pz_iload_n hC dX10_worthOfSpouse_33 3 rfl ?_
  refine pz_lload_n hC dX10_worthOfSpouse_34 0 rfl ?_
  refine pz_Vlw (As := [.int p1, .int p2, .long x2.1]) hC hK dX10_worthOfSpouse_35 py_X10_worthIn pv_X10_worthIn lk_X10_187 hf (fun _ h => mX10_worthIn h) rfl rfl (Nat.le_of_ble_eq_true rfl) ⟨by decide, by decide⟩ ⟨by decide, by decide⟩ (fun x7 hf => ?_)
  exact pz_lretw hC hK dX10_worthOfSpouse_38 hf
def fX10_worthOfAll_39b (k39 : pz_H → Nat → Int32 → Int64 → Int32 → Option (Int64 × pz_H)) (f : pz_H) (l0 : Nat) (l1 : Int32) (l2 : Int64) (l4 : Int32) : Option (Int64 × pz_H) :=
  if (1800 : Int32) ≤ l4 then some (l2, f) else
  (pz_gR f l0 9 7).bind fun v1 =>
  (pz_aL f v1 1 ((l4 - l1))).bind fun v2 =>
  (pz_gR f l0 9 5).bind fun v3 =>
  (pz_aL f v3 1 l4).bind fun v4 =>
  (pz_gR f l0 9 8).bind fun v5 =>
  (pz_aL f v5 1 l4).bind fun v6 =>
  k39 f l0 l1 ((l2 + ((v2 * ((v4 * v6) / (1000000000 : Int64))) / (1000000000 : Int64)))) ((l4 + 1))
theorem tX10_worthOfAll_39b {G : pz_G} {C : pz_C} {f : pz_H} {k39 : pz_H → Nat → Int32 → Int64 → Int32 → Option (Int64 × pz_H)} {l0 : Nat} {l1 : Int32} {l2 : Int64} {l4 : Int32} {r : (Int64 × pz_H)} (hC : pz_OK G C cX10_worthOfAll 5 RX10) (hK : pz_K C (some .long) 6 135 0 0) (hk39 : ∀ (g : pz_H) (a0 : Nat) (a1 : Int32) (a2 : Int64) (a4 : Int32), k39 g a0 a1 a2 a4 = some r → pz_W G C 5 39 [(0, .ref a0), (1, .int a1), (2, .long a2), (4, .int a4)] [] g 0 0 (pz_Q G C (some (.long r.1)) r.2 0 0)) (hf : fX10_worthOfAll_39b k39 f l0 l1 l2 l4 = some r) : pz_W G C 5 39 [(0, .ref l0), (1, .int l1), (2, .long l2), (4, .int l4)] [] f 0 0 (pz_Q G C (some (.long r.1)) r.2 0 0) := by
  unfold fX10_worthOfAll_39b at hf
  refine pz_iload hC dX10_worthOfAll_39 3 rfl ?_
  refine pz_sipush (v := (1800 : Int32)) hC dX10_worthOfAll_41 (by decide) ?_
  refine pz_icmp_ge hC dX10_worthOfAll_44 hf (fun _ hf => ?_) (fun _ hf => ?_)
  · refine pz_lload_n hC dX10_worthOfAll_89 2 rfl ?_
    exact pz_lretw hC hK dX10_worthOfAll_90 hf
  · refine pz_lload_n hC dX10_worthOfAll_47 2 rfl ?_
    refine pz_aload_n hC dX10_worthOfAll_48 0 rfl ?_
    refine pz_getR hC dX10_worthOfAll_49 fa_X10_23 hf (fun v1 hf => ?_)
    refine pz_iload hC dX10_worthOfAll_52 3 rfl ?_
    refine pz_iload_n hC dX10_worthOfAll_54 1 rfl ?_
    refine pz_isub hC dX10_worthOfAll_55 ?_
    refine pz_lald hC dX10_worthOfAll_56 hf (fun v2 hf => ?_)
    refine pz_aload_n hC dX10_worthOfAll_57 0 rfl ?_
    refine pz_getR hC dX10_worthOfAll_58 fa_X10_19 hf (fun v3 hf => ?_)
    refine pz_iload hC dX10_worthOfAll_61 3 rfl ?_
    refine pz_lald hC dX10_worthOfAll_63 hf (fun v4 hf => ?_)
    refine pz_aload_n hC dX10_worthOfAll_64 0 rfl ?_
    refine pz_getR hC dX10_worthOfAll_65 fa_X10_26 hf (fun v5 hf => ?_)
    refine pz_iload hC dX10_worthOfAll_68 3 rfl ?_
    refine pz_lald hC dX10_worthOfAll_70 hf (fun v6 hf => ?_)
    refine pz_lmul hC dX10_worthOfAll_71 ?_
    refine pz_ldc2 hC dX10_worthOfAll_72 ck_X10_87 ?_
    refine pz_ldivc hC dX10_worthOfAll_75 (by decide) ?_
    refine pz_lmul hC dX10_worthOfAll_76 ?_
    refine pz_ldc2 hC dX10_worthOfAll_77 ck_X10_87 ?_
    refine pz_ldivc hC dX10_worthOfAll_80 (by decide) ?_
    refine pz_ladd hC dX10_worthOfAll_81 ?_
    refine pz_lstore_n hC dX10_worthOfAll_82 (by decide) rfl ?_
    refine pz_iinc (v := (l4 + 1)) hC dX10_worthOfAll_83 3 rfl rfl (by decide) rfl ?_
    refine pz_goto hC dX10_worthOfAll_86 ?_
    refine pz_sub [2, 3, 1, 0] rfl ?_
    exact hk39 _ _ _ _ _ hf
def fX10_worthOfAll_39 : Nat → pz_H → Nat → Int32 → Int64 → Int32 → Option (Int64 × pz_H)
  | 0, _, _, _, _, _ => none
  | n + 1, f, l0, l1, l2, l4 => fX10_worthOfAll_39b (fX10_worthOfAll_39 n) f l0 l1 l2 l4
theorem tX10_worthOfAll_39 {G : pz_G} {C : pz_C} {r : (Int64 × pz_H)} (hC : pz_OK G C cX10_worthOfAll 5 RX10) (hK : pz_K C (some .long) 6 135 0 0) : ∀ (N : Nat) (f : pz_H) (l0 : Nat) (l1 : Int32) (l2 : Int64) (l4 : Int32), fX10_worthOfAll_39 N f l0 l1 l2 l4 = some r → pz_W G C 5 39 [(0, .ref l0), (1, .int l1), (2, .long l2), (4, .int l4)] [] f 0 0 (pz_Q G C (some (.long r.1)) r.2 0 0) := by
  intro N
  induction N with
  | zero => intro f l0 l1 l2 l4 hf; cases hf
  | succ N ih => intro f l0 l1 l2 l4 hf; exact tX10_worthOfAll_39b hC hK (fun f l0 l1 l2 l4 hf => ih f l0 l1 l2 l4 hf) hf
def fX10_worthOfAll_37 (f : pz_H) (l0 : Nat) (l1 : Int32) (l2 : Int64) (s0 : Int32) : Option (Int64 × pz_H) :=
  fX10_worthOfAll_39 pz_F f l0 l1 l2 s0
theorem tX10_worthOfAll_37 {G : pz_G} {C : pz_C} {f : pz_H} {l0 : Nat} {l1 : Int32} {l2 : Int64} {s0 : Int32} {r : (Int64 × pz_H)} (hC : pz_OK G C cX10_worthOfAll 5 RX10) (hK : pz_K C (some .long) 6 135 0 0) (hf : fX10_worthOfAll_37 f l0 l1 l2 s0 = some r) : pz_W G C 5 37 [(0, .ref l0), (1, .int l1), (2, .long l2)] [.int s0] f 0 0 (pz_Q G C (some (.long r.1)) r.2 0 0) := by
  unfold fX10_worthOfAll_37 at hf
  refine pz_istore hC dX10_worthOfAll_37 (by decide) rfl ?_
  refine pz_sub [1, 2, 3, 0] rfl ?_
  exact tX10_worthOfAll_39 hC hK _ _ _ _ _ _ hf
def fnX10_worthOfAll (f : pz_H) (a0 : Nat) (p1 : Int32) : Option (Int64 × pz_H) :=
  (pz_is f a0 9).bind fun _ =>
  (fnX10_laysWholes f a0).bind fun x1 =>
  (pz_gR x1 a0 9 8).bind fun v2 =>
  (fnX10_laysOdds x1 a0 v2 ((10 : Int32)) p1).bind fun x3 =>
  (pz_gR x3 a0 9 1).bind fun v4 =>
  (pz_aI x3 v4 0 ((1 : Int32))).bind fun v5 =>
  if v5 ≤ p1 then fX10_worthOfAll_37 x3 a0 p1 ((0 : Int64)) p1 else
  (pz_gR x3 a0 9 1).bind fun v6 =>
  (pz_aI x3 v6 0 ((1 : Int32))).bind fun v7 =>
  fX10_worthOfAll_37 x3 a0 p1 ((0 : Int64)) v7
theorem mX10_worthOfAll {l : Launch} {G : pz_G} {f : pz_H} {a0 : Nat} {p1 : Int32} {r : (Int64 × pz_H)} (hf : fnX10_worthOfAll f a0 p1 = some r) : pz_Met l G yX10_worthOfAll cX10_worthOfAll 5 (some .long) 6 135 0 0 [.ref a0, .int p1] f (some (.long r.1)) r.2 ∧ pz_is f a0 9 = some () := by
  unfold fnX10_worthOfAll at hf
  obtain ⟨_, h0, hf⟩ := pz_bd hf
  refine ⟨pz_enter (by decide +kernel) (Nat.le_of_ble_eq_true rfl) (fun C hl hC hK hnm => ?_), h0⟩
  subst hl
  refine pz_sub (lv' := [(0, .ref a0), (1, .int p1)]) [0, 1] rfl ?_
  refine pz_aload_n hC dX10_worthOfAll_0 0 rfl ?_
  refine pz_Vv (As := []) hC hK dX10_worthOfAll_1 py_X10_laysWholes pv_X10_laysWholes lk_X10_95 hf (fun _ h => mX10_laysWholes h) rfl rfl (Nat.le_of_ble_eq_true rfl) ⟨by decide, by decide⟩ ⟨by decide, by decide⟩ (fun x1 hf => ?_)
  refine pz_aload_n hC dX10_worthOfAll_4 0 rfl ?_
  refine pz_aload_n hC dX10_worthOfAll_5 0 rfl ?_
  refine pz_getR hC dX10_worthOfAll_6 fa_X10_26 hf (fun v2 hf => ?_)
  refine pz_bipush (v := (10 : Int32)) hC dX10_worthOfAll_9 (by decide) ?_
  refine pz_iload_n hC dX10_worthOfAll_11 1 rfl ?_
  refine pz_Vv (As := [.ref v2, .int (10 : Int32), .int p1]) hC hK dX10_worthOfAll_12 py_X10_laysOdds pv_X10_laysOdds lk_X10_113 hf (fun _ h => mX10_laysOdds h) rfl rfl (Nat.le_of_ble_eq_true rfl) ⟨by decide, by decide⟩ ⟨by decide, by decide⟩ (fun x3 hf => ?_)
  refine pz_lconst (v := 0) hC dX10_worthOfAll_15 (by decide) ?_
  refine pz_lstore_n hC dX10_worthOfAll_16 (by decide) rfl ?_
  refine pz_aload_n hC dX10_worthOfAll_17 1 rfl ?_
  refine pz_getR hC dX10_worthOfAll_18 fa_X10_7 hf (fun v4 hf => ?_)
  refine pz_iconst (v := (1 : Int32)) hC dX10_worthOfAll_21 (by decide) ?_
  refine pz_iald hC dX10_worthOfAll_22 hf (fun v5 hf => ?_)
  refine pz_iload_n hC dX10_worthOfAll_23 2 rfl ?_
  refine pz_icmp_le hC dX10_worthOfAll_24 hf (fun _ hf => ?_) (fun _ hf => ?_)
  · refine pz_iload_n hC dX10_worthOfAll_36 2 rfl ?_
    refine pz_sub [1, 2, 0] rfl ?_
    exact tX10_worthOfAll_37 hC hK hf
  · refine pz_aload_n hC dX10_worthOfAll_27 1 rfl ?_
    refine pz_getR hC dX10_worthOfAll_28 fa_X10_7 hf (fun v6 hf => ?_)
    refine pz_iconst (v := (1 : Int32)) hC dX10_worthOfAll_31 (by decide) ?_
    refine pz_iald hC dX10_worthOfAll_32 hf (fun v7 hf => ?_)
    refine pz_goto hC dX10_worthOfAll_33 ?_
    refine pz_sub [1, 2, 0] rfl ?_
    exact tX10_worthOfAll_37 hC hK hf
def fX10_hasWorth_49 (f : pz_H) (s0 : Int32) : Option Int32 :=
  pz_b s0
theorem tX10_hasWorth_49 {G : pz_G} {C : pz_C} {f : pz_H} {s0 : Int32} {r : Int32} (hC : pz_OK G C cX10_hasWorth 3 RX10) (hK : pz_K C (some .boolean) 3 64 0 0) (hf : fX10_hasWorth_49 f s0 = some r) : pz_W G C 3 49 [] [.int s0] f 0 0 (pz_Q G C (some (.int r)) f 0 0) := by
  unfold fX10_hasWorth_49 at hf
  exact pz_zret hC hK dX10_hasWorth_49 hf
def fX10_hasWorth_48 (f : pz_H) : Option Int32 :=
  fX10_hasWorth_49 f ((0 : Int32))
theorem tX10_hasWorth_48 {G : pz_G} {C : pz_C} {f : pz_H} {r : Int32} (hC : pz_OK G C cX10_hasWorth 3 RX10) (hK : pz_K C (some .boolean) 3 64 0 0) (hf : fX10_hasWorth_48 f = some r) : pz_W G C 3 48 [] [] f 0 0 (pz_Q G C (some (.int r)) f 0 0) := by
  unfold fX10_hasWorth_48 at hf
  refine pz_iconst (v := (0 : Int32)) hC dX10_hasWorth_48 (by decide) ?_
  exact tX10_hasWorth_49 hC hK hf
def fnX10_hasWorth (f : pz_H) (a0 : Nat) (p1 : Int32) (p2 : Int32) : Option Int32 :=
  (pz_is f a0 9).bind fun _ =>
  (fnX10_isWho f a0 p1).bind fun x1 =>
  if x1 = 0 then fX10_hasWorth_48 f else
  (fnX10_isMonth p2).bind fun x2 =>
  if x2 = 0 then fX10_hasWorth_48 f else
  (pz_gR f a0 9 1).bind fun v3 =>
  (pz_aI f v3 0 ((1 : Int32))).bind fun v4 =>
  if v4 = ((-1) : Int32) then fX10_hasWorth_48 f else
  (pz_gR f a0 9 1).bind fun v5 =>
  (pz_aI f v5 0 ((0 : Int32))).bind fun v6 =>
  if p2 < v6 then fX10_hasWorth_48 f else
  (fnX10_bornOf f a0 p1).bind fun x7 =>
  if p2 < x7 then fX10_hasWorth_48 f else
  fX10_hasWorth_49 f ((1 : Int32))
theorem mX10_hasWorth {l : Launch} {G : pz_G} {f : pz_H} {a0 : Nat} {p1 : Int32} {p2 : Int32} {r : Int32} (hf : fnX10_hasWorth f a0 p1 p2 = some r) : pz_Met l G yX10_hasWorth cX10_hasWorth 3 (some .boolean) 3 64 0 0 [.ref a0, .int p1, .int p2] f (some (.int r)) f ∧ pz_is f a0 9 = some () := by
  unfold fnX10_hasWorth at hf
  obtain ⟨_, h0, hf⟩ := pz_bd hf
  refine ⟨pz_enter (by decide +kernel) (Nat.le_of_ble_eq_true rfl) (fun C hl hC hK hnm => ?_), h0⟩
  subst hl
  refine pz_sub (lv' := [(0, .ref a0), (1, .int p1), (2, .int p2)]) [0, 1, 2] rfl ?_
  refine pz_aload_n hC dX10_hasWorth_0 0 rfl ?_
  refine pz_iload_n hC dX10_hasWorth_1 1 rfl ?_
  refine pz_Vi (As := [.int p1]) hC hK dX10_hasWorth_2 py_X10_isWho pv_X10_isWho lk_X10_158 hf (fun _ h => mX10_isWho h) rfl rfl (Nat.le_of_ble_eq_true rfl) ⟨by decide, by decide⟩ ⟨by decide, by decide⟩ (fun x1 hf => ?_)
  refine pz_if_eq hC dX10_hasWorth_5 hf (fun _ hf => ?_) (fun _ hf => ?_)
  · refine pz_sub [] rfl ?_
    exact tX10_hasWorth_48 hC hK hf
  · refine pz_iload_n hC dX10_hasWorth_8 2 rfl ?_
    refine pz_Si (As := [.int p2]) hC hK dX10_hasWorth_9 py_X10_isMonth ps_X10_isMonth lk_X10_155 hf (fun _ h => mX10_isMonth h) rfl rfl (Nat.le_of_ble_eq_true rfl) ⟨by decide, by decide⟩ ⟨by decide, by decide⟩ (fun x2 hf => ?_)
    refine pz_if_eq hC dX10_hasWorth_12 hf (fun _ hf => ?_) (fun _ hf => ?_)
    · refine pz_sub [] rfl ?_
      exact tX10_hasWorth_48 hC hK hf
    · refine pz_aload_n hC dX10_hasWorth_15 0 rfl ?_
      refine pz_getR hC dX10_hasWorth_16 fa_X10_7 hf (fun v3 hf => ?_)
      refine pz_iconst (v := (1 : Int32)) hC dX10_hasWorth_19 (by decide) ?_
      refine pz_iald hC dX10_hasWorth_20 hf (fun v4 hf => ?_)
      refine pz_iconst (v := ((-1) : Int32)) hC dX10_hasWorth_21 (by decide) ?_
      refine pz_icmp_eq hC dX10_hasWorth_22 hf (fun _ hf => ?_) (fun _ hf => ?_)
      · refine pz_sub [] rfl ?_
        exact tX10_hasWorth_48 hC hK hf
      · refine pz_aload_n hC dX10_hasWorth_25 0 rfl ?_
        refine pz_getR hC dX10_hasWorth_26 fa_X10_7 hf (fun v5 hf => ?_)
        refine pz_iconst (v := (0 : Int32)) hC dX10_hasWorth_29 (by decide) ?_
        refine pz_iald hC dX10_hasWorth_30 hf (fun v6 hf => ?_)
        refine pz_iload_n hC dX10_hasWorth_31 2 rfl ?_
        refine pz_icmp_gt hC dX10_hasWorth_32 hf (fun _ hf => ?_) (fun _ hf => ?_)
        · refine pz_sub [] rfl ?_
          exact tX10_hasWorth_48 hC hK hf
        · refine pz_aload_n hC dX10_hasWorth_35 0 rfl ?_
          refine pz_iload_n hC dX10_hasWorth_36 1 rfl ?_
          refine pz_Vi (As := [.int p1]) hC hK dX10_hasWorth_37 py_X10_bornOf pv_X10_bornOf lk_X10_103 hf (fun _ h => mX10_bornOf h) rfl rfl (Nat.le_of_ble_eq_true rfl) ⟨by decide, by decide⟩ ⟨by decide, by decide⟩ (fun x7 hf => ?_)
          refine pz_iload_n hC dX10_hasWorth_40 2 rfl ?_
          refine pz_icmp_gt hC dX10_hasWorth_41 hf (fun _ hf => ?_) (fun _ hf => ?_)
          · refine pz_sub [] rfl ?_
            exact tX10_hasWorth_48 hC hK hf
          · refine pz_iconst (v := (1 : Int32)) hC dX10_hasWorth_44 (by decide) ?_
            refine pz_goto hC dX10_hasWorth_45 ?_
            refine pz_sub [] rfl ?_
            exact tX10_hasWorth_49 hC hK hf
def fX10_worth_38 (f : pz_H) (s0 : Int64) : Option (Int64 × pz_H) :=
  some (s0, f)
theorem tX10_worth_38 {G : pz_G} {C : pz_C} {f : pz_H} {s0 : Int64} {r : (Int64 × pz_H)} (hC : pz_OK G C cX10_worth 3 RX10) (hK : pz_K C (some .long) 10 233 0 0) (hf : fX10_worth_38 f s0 = some r) : pz_W G C 3 38 [] [.long s0] f 0 0 (pz_Q G C (some (.long r.1)) r.2 0 0) := by
  unfold fX10_worth_38 at hf
  exact pz_lretw hC hK dX10_worth_38 hf
def fnX10_worth (f : pz_H) (a0 : Nat) (p1 : Int32) (p2 : Int32) : Option (Int64 × pz_H) :=
  (pz_is f a0 9).bind fun _ =>
  (pz_sV f a0 9 0 (.int (0 : Int32))).bind fun f1 =>
  (fnX10_hasWorth f1 a0 p1 p2).bind fun x2 =>
  if x2 = 0 then some (((-1) : Int64), f1) else
  if p1 = (10 : Int32) then (fnX10_worthOfAll f1 a0 p2).bind fun x4 =>
  fX10_worth_38 x4.2 x4.1 else
  (fnX10_worthOfSpouse f1 a0 p1 p2).bind fun x3 =>
  fX10_worth_38 x3.2 x3.1
theorem mX10_worth {l : Launch} {G : pz_G} {f : pz_H} {a0 : Nat} {p1 : Int32} {p2 : Int32} {r : (Int64 × pz_H)} (hf : fnX10_worth f a0 p1 p2 = some r) : pz_Met l G yX10_worth cX10_worth 3 (some .long) 10 233 0 0 [.ref a0, .int p1, .int p2] f (some (.long r.1)) r.2 ∧ pz_is f a0 9 = some () := by
  unfold fnX10_worth at hf
  obtain ⟨_, h0, hf⟩ := pz_bd hf
  refine ⟨pz_enter (by decide +kernel) (Nat.le_of_ble_eq_true rfl) (fun C hl hC hK hnm => ?_), h0⟩
  subst hl
  refine pz_sub (lv' := [(0, .ref a0), (1, .int p1), (2, .int p2)]) [0, 1, 2] rfl ?_
  refine pz_aload_n hC dX10_worth_0 0 rfl ?_
  refine pz_iconst (v := (0 : Int32)) hC dX10_worth_1 (by decide) ?_
  refine pz_putV hC dX10_worth_2 fp_X10_48 rfl rfl hf (fun f1 hf => ?_)
  refine pz_aload_n hC dX10_worth_5 0 rfl ?_
  refine pz_iload_n hC dX10_worth_6 1 rfl ?_
  refine pz_iload_n hC dX10_worth_7 2 rfl ?_
  refine pz_Vi (As := [.int p1, .int p2]) hC hK dX10_worth_8 py_X10_hasWorth pv_X10_hasWorth lk_X10_191 hf (fun _ h => mX10_hasWorth h) rfl rfl (Nat.le_of_ble_eq_true rfl) ⟨by decide, by decide⟩ ⟨by decide, by decide⟩ (fun x2 hf => ?_)
  refine pz_if_ne hC dX10_worth_11 hf (fun _ hf => ?_) (fun _ hf => ?_)
  · refine pz_iload_n hC dX10_worth_18 1 rfl ?_
    refine pz_bipush (v := (10 : Int32)) hC dX10_worth_19 (by decide) ?_
    refine pz_icmp_ne hC dX10_worth_21 hf (fun _ hf => ?_) (fun _ hf => ?_)
    · refine pz_aload_n hC dX10_worth_32 0 rfl ?_
      refine pz_iload_n hC dX10_worth_33 1 rfl ?_
      refine pz_iload_n hC dX10_worth_34 2 rfl ?_
      refine pz_Vlw (As := [.int p1, .int p2]) hC hK dX10_worth_35 py_X10_worthOfSpouse pv_X10_worthOfSpouse lk_X10_197 hf (fun _ h => mX10_worthOfSpouse h) rfl rfl (Nat.le_of_ble_eq_true rfl) ⟨by decide, by decide⟩ ⟨by decide, by decide⟩ (fun x3 hf => ?_)
      refine pz_sub [] rfl ?_
      exact tX10_worth_38 hC hK hf
    · refine pz_aload_n hC dX10_worth_24 0 rfl ?_
      refine pz_iload_n hC dX10_worth_25 2 rfl ?_
      refine pz_Vlw (As := [.int p2]) hC hK dX10_worth_26 py_X10_worthOfAll pv_X10_worthOfAll lk_X10_194 hf (fun _ h => mX10_worthOfAll h) rfl rfl (Nat.le_of_ble_eq_true rfl) ⟨by decide, by decide⟩ ⟨by decide, by decide⟩ (fun x4 hf => ?_)
      refine pz_goto hC dX10_worth_29 ?_
      refine pz_sub [] rfl ?_
      exact tX10_worth_38 hC hK hf
  · refine pz_ldc2 hC dX10_worth_14 ck_X10_185 ?_
    exact pz_lretw hC hK dX10_worth_17 hf
def fX10_claimBest_27 (f : pz_H) : Option (Int32 × pz_H) :=
  some (((-1) : Int32), f)
theorem tX10_claimBest_27 {G : pz_G} {C : pz_C} {f : pz_H} {r : (Int32 × pz_H)} (hC : pz_OK G C cX10_claimBest 9 RX10) (hK : pz_K C (some .int) 10 233 0 0) (hf : fX10_claimBest_27 f = some r) : pz_W G C 9 27 [] [] f 0 0 (pz_Q G C (some (.int r.1)) r.2 0 0) := by
  unfold fX10_claimBest_27 at hf
  refine pz_iconst (v := ((-1) : Int32)) hC dX10_claimBest_27 (by decide) ?_
  exact pz_iretw hC hK dX10_claimBest_28 hf
def fX10_claimBest_123 (k50 : pz_H → Nat → Int32 → Int32 → Int32 → Int64 → Int32 → Option (Int32 × pz_H)) (f : pz_H) (l0 : Nat) (l1 : Int32) (l2 : Int32) (l3 : Int32) (l4 : Int64) (l6 : Int32) : Option (Int32 × pz_H) :=
  k50 f l0 l1 l2 l3 l4 ((l6 + 1))
theorem tX10_claimBest_123 {G : pz_G} {C : pz_C} {f : pz_H} {k50 : pz_H → Nat → Int32 → Int32 → Int32 → Int64 → Int32 → Option (Int32 × pz_H)} {l0 : Nat} {l1 : Int32} {l2 : Int32} {l3 : Int32} {l4 : Int64} {l6 : Int32} {r : (Int32 × pz_H)} (hC : pz_OK G C cX10_claimBest 9 RX10) (hK : pz_K C (some .int) 10 233 0 0) (hk50 : ∀ (g : pz_H) (a0 : Nat) (a1 : Int32) (a2 : Int32) (a3 : Int32) (a4 : Int64) (a6 : Int32), k50 g a0 a1 a2 a3 a4 a6 = some r → pz_W G C 9 50 [(0, .ref a0), (1, .int a1), (2, .int a2), (3, .int a3), (4, .long a4), (6, .int a6)] [] g 0 0 (pz_Q G C (some (.int r.1)) r.2 0 0)) (hf : fX10_claimBest_123 k50 f l0 l1 l2 l3 l4 l6 = some r) : pz_W G C 9 123 [(0, .ref l0), (1, .int l1), (2, .int l2), (3, .int l3), (4, .long l4), (6, .int l6)] [] f 0 0 (pz_Q G C (some (.int r.1)) r.2 0 0) := by
  unfold fX10_claimBest_123 at hf
  refine pz_iinc (v := (l6 + 1)) hC dX10_claimBest_123 5 rfl rfl (by decide) rfl ?_
  refine pz_goto hC dX10_claimBest_126 ?_
  refine pz_sub [1, 2, 3, 4, 5, 0] rfl ?_
  exact hk50 _ _ _ _ _ _ _ hf
def fX10_claimBest_116 (k50 : pz_H → Nat → Int32 → Int32 → Int32 → Int64 → Int32 → Option (Int32 × pz_H)) (f : pz_H) (l0 : Nat) (l1 : Int32) (l2 : Int32) (l6 : Int32) (l7 : Int64) : Option (Int32 × pz_H) :=
  fX10_claimBest_123 k50 f l0 l1 l2 l6 l7 l6
theorem tX10_claimBest_116 {G : pz_G} {C : pz_C} {f : pz_H} {k50 : pz_H → Nat → Int32 → Int32 → Int32 → Int64 → Int32 → Option (Int32 × pz_H)} {l0 : Nat} {l1 : Int32} {l2 : Int32} {l6 : Int32} {l7 : Int64} {r : (Int32 × pz_H)} (hC : pz_OK G C cX10_claimBest 9 RX10) (hK : pz_K C (some .int) 10 233 0 0) (hk50 : ∀ (g : pz_H) (a0 : Nat) (a1 : Int32) (a2 : Int32) (a3 : Int32) (a4 : Int64) (a6 : Int32), k50 g a0 a1 a2 a3 a4 a6 = some r → pz_W G C 9 50 [(0, .ref a0), (1, .int a1), (2, .int a2), (3, .int a3), (4, .long a4), (6, .int a6)] [] g 0 0 (pz_Q G C (some (.int r.1)) r.2 0 0)) (hf : fX10_claimBest_116 k50 f l0 l1 l2 l6 l7 = some r) : pz_W G C 9 116 [(0, .ref l0), (1, .int l1), (2, .int l2), (6, .int l6), (7, .long l7)] [] f 0 0 (pz_Q G C (some (.int r.1)) r.2 0 0) := by
  unfold fX10_claimBest_116 at hf
  refine pz_iload hC dX10_claimBest_116 3 rfl ?_
  refine pz_istore_n hC dX10_claimBest_118 (by decide) rfl ?_
  refine pz_lload hC dX10_claimBest_119 5 rfl ?_
  refine pz_lstore hC dX10_claimBest_121 (by decide) rfl ?_
  refine pz_sub [2, 3, 4, 1, 0, 5] rfl ?_
  exact tX10_claimBest_123 hC hK hk50 hf
def fX10_claimBest_129 (f : pz_H) (l0 : Nat) (l1 : Int32) (l2 : Int32) (l3 : Int32) : Option (Int32 × pz_H) :=
  (pz_gR f l0 9 1).bind fun v1 =>
  (pz_tI f v1 0 ((((35 : Int32) + ((8 : Int32) * l1)) + (6 : Int32))) l2).bind fun f2 =>
  some (l3, f2)
theorem tX10_claimBest_129 {G : pz_G} {C : pz_C} {f : pz_H} {l0 : Nat} {l1 : Int32} {l2 : Int32} {l3 : Int32} {r : (Int32 × pz_H)} (hC : pz_OK G C cX10_claimBest 9 RX10) (hK : pz_K C (some .int) 10 233 0 0) (hf : fX10_claimBest_129 f l0 l1 l2 l3 = some r) : pz_W G C 9 129 [(0, .ref l0), (1, .int l1), (2, .int l2), (3, .int l3)] [] f 0 0 (pz_Q G C (some (.int r.1)) r.2 0 0) := by
  unfold fX10_claimBest_129 at hf
  refine pz_aload_n hC dX10_claimBest_129 0 rfl ?_
  refine pz_getR hC dX10_claimBest_130 fa_X10_7 hf (fun v1 hf => ?_)
  refine pz_bipush (v := (35 : Int32)) hC dX10_claimBest_133 (by decide) ?_
  refine pz_bipush (v := (8 : Int32)) hC dX10_claimBest_135 (by decide) ?_
  refine pz_iload_n hC dX10_claimBest_137 1 rfl ?_
  refine pz_imul hC dX10_claimBest_138 ?_
  refine pz_iadd hC dX10_claimBest_139 ?_
  refine pz_bipush (v := (6 : Int32)) hC dX10_claimBest_140 (by decide) ?_
  refine pz_iadd hC dX10_claimBest_142 ?_
  refine pz_iload_n hC dX10_claimBest_143 2 rfl ?_
  refine pz_iast hC dX10_claimBest_144 hf (fun f2 hf => ?_)
  refine pz_iload_n hC dX10_claimBest_145 3 rfl ?_
  exact pz_iretw hC hK dX10_claimBest_146 hf
def fX10_claimBest_50b (k50 : pz_H → Nat → Int32 → Int32 → Int32 → Int64 → Int32 → Option (Int32 × pz_H)) (f : pz_H) (l0 : Nat) (l1 : Int32) (l2 : Int32) (l3 : Int32) (l4 : Int64) (l6 : Int32) : Option (Int32 × pz_H) :=
  (pz_gR f l0 9 1).bind fun v1 =>
  (pz_aI f v1 0 ((1 : Int32))).bind fun v2 =>
  if (v2 + (240 : Int32)) < l6 then fX10_claimBest_129 f l0 l1 l2 l3 else
  if (1800 : Int32) ≤ l6 then fX10_claimBest_129 f l0 l1 l2 l3 else
  (pz_gR f l0 9 1).bind fun v3 =>
  (pz_tI f v3 0 ((((35 : Int32) + ((8 : Int32) * l1)) + (6 : Int32))) l6).bind fun f4 =>
  (pz_gR f4 l0 9 1).bind fun v5 =>
  (pz_aI f4 v5 0 ((1 : Int32))).bind fun v6 =>
  (fnX10_worthOfSpouse f4 l0 l1 v6).bind fun x7 =>
  if l3 = ((-1) : Int32) then fX10_claimBest_116 k50 x7.2 l0 l1 l2 l6 x7.1 else
  if (lg_cmp x7.1 l4) ≤ 0 then fX10_claimBest_123 k50 x7.2 l0 l1 l2 l3 l4 l6 else
  fX10_claimBest_116 k50 x7.2 l0 l1 l2 l6 x7.1
theorem tX10_claimBest_50b {G : pz_G} {C : pz_C} {f : pz_H} {k50 : pz_H → Nat → Int32 → Int32 → Int32 → Int64 → Int32 → Option (Int32 × pz_H)} {l0 : Nat} {l1 : Int32} {l2 : Int32} {l3 : Int32} {l4 : Int64} {l6 : Int32} {r : (Int32 × pz_H)} (hC : pz_OK G C cX10_claimBest 9 RX10) (hK : pz_K C (some .int) 10 233 0 0) (hk50 : ∀ (g : pz_H) (a0 : Nat) (a1 : Int32) (a2 : Int32) (a3 : Int32) (a4 : Int64) (a6 : Int32), k50 g a0 a1 a2 a3 a4 a6 = some r → pz_W G C 9 50 [(0, .ref a0), (1, .int a1), (2, .int a2), (3, .int a3), (4, .long a4), (6, .int a6)] [] g 0 0 (pz_Q G C (some (.int r.1)) r.2 0 0)) (hf : fX10_claimBest_50b k50 f l0 l1 l2 l3 l4 l6 = some r) : pz_W G C 9 50 [(0, .ref l0), (1, .int l1), (2, .int l2), (3, .int l3), (4, .long l4), (6, .int l6)] [] f 0 0 (pz_Q G C (some (.int r.1)) r.2 0 0) := by
  unfold fX10_claimBest_50b at hf
  refine pz_iload hC dX10_claimBest_50 5 rfl ?_
  refine pz_aload_n hC dX10_claimBest_52 0 rfl ?_
  refine pz_getR hC dX10_claimBest_53 fa_X10_7 hf (fun v1 hf => ?_)
  refine pz_iconst (v := (1 : Int32)) hC dX10_claimBest_56 (by decide) ?_
  refine pz_iald hC dX10_claimBest_57 hf (fun v2 hf => ?_)
  refine pz_sipush (v := (240 : Int32)) hC dX10_claimBest_58 (by decide) ?_
  refine pz_iadd hC dX10_claimBest_61 ?_
  refine pz_icmp_gt hC dX10_claimBest_62 hf (fun _ hf => ?_) (fun _ hf => ?_)
  · refine pz_sub [0, 1, 2, 3] rfl ?_
    exact tX10_claimBest_129 hC hK hf
  · refine pz_iload hC dX10_claimBest_65 5 rfl ?_
    refine pz_sipush (v := (1800 : Int32)) hC dX10_claimBest_67 (by decide) ?_
    refine pz_icmp_ge hC dX10_claimBest_70 hf (fun _ hf => ?_) (fun _ hf => ?_)
    · refine pz_sub [0, 1, 2, 3] rfl ?_
      exact tX10_claimBest_129 hC hK hf
    · refine pz_aload_n hC dX10_claimBest_73 0 rfl ?_
      refine pz_getR hC dX10_claimBest_74 fa_X10_7 hf (fun v3 hf => ?_)
      refine pz_bipush (v := (35 : Int32)) hC dX10_claimBest_77 (by decide) ?_
      refine pz_bipush (v := (8 : Int32)) hC dX10_claimBest_79 (by decide) ?_
      refine pz_iload_n hC dX10_claimBest_81 1 rfl ?_
      refine pz_imul hC dX10_claimBest_82 ?_
      refine pz_iadd hC dX10_claimBest_83 ?_
      refine pz_bipush (v := (6 : Int32)) hC dX10_claimBest_84 (by decide) ?_
      refine pz_iadd hC dX10_claimBest_86 ?_
      refine pz_iload hC dX10_claimBest_87 5 rfl ?_
      refine pz_iast hC dX10_claimBest_89 hf (fun f4 hf => ?_)
      refine pz_aload_n hC dX10_claimBest_90 0 rfl ?_
      refine pz_iload_n hC dX10_claimBest_91 1 rfl ?_
      refine pz_aload_n hC dX10_claimBest_92 0 rfl ?_
      refine pz_getR hC dX10_claimBest_93 fa_X10_7 hf (fun v5 hf => ?_)
      refine pz_iconst (v := (1 : Int32)) hC dX10_claimBest_96 (by decide) ?_
      refine pz_iald hC dX10_claimBest_97 hf (fun v6 hf => ?_)
      refine pz_Vlw (As := [.int l1, .int v6]) hC hK dX10_claimBest_98 py_X10_worthOfSpouse pv_X10_worthOfSpouse lk_X10_197 hf (fun _ h => mX10_worthOfSpouse h) rfl rfl (Nat.le_of_ble_eq_true rfl) ⟨by decide, by decide⟩ ⟨by decide, by decide⟩ (fun x7 hf => ?_)
      refine pz_lstore hC dX10_claimBest_101 (by decide) rfl ?_
      refine pz_iload_n hC dX10_claimBest_103 4 rfl ?_
      refine pz_iconst (v := ((-1) : Int32)) hC dX10_claimBest_104 (by decide) ?_
      refine pz_icmp_eq hC dX10_claimBest_105 hf (fun _ hf => ?_) (fun _ hf => ?_)
      · refine pz_sub [1, 2, 3, 6, 0] rfl ?_
        exact tX10_claimBest_116 hC hK hk50 hf
      · refine pz_lload hC dX10_claimBest_108 0 rfl ?_
        refine pz_lload hC dX10_claimBest_110 5 rfl ?_
        refine pz_lcmp hC dX10_claimBest_112 ?_
        refine pz_if_le hC dX10_claimBest_113 hf (fun _ hf => ?_) (fun _ hf => ?_)
        · refine pz_sub [1, 2, 3, 4, 5, 6] rfl ?_
          exact tX10_claimBest_123 hC hK hk50 hf
        · refine pz_sub [1, 2, 3, 6, 0] rfl ?_
          exact tX10_claimBest_116 hC hK hk50 hf
def fX10_claimBest_50 : Nat → pz_H → Nat → Int32 → Int32 → Int32 → Int64 → Int32 → Option (Int32 × pz_H)
  | 0, _, _, _, _, _, _, _ => none
  | n + 1, f, l0, l1, l2, l3, l4, l6 => fX10_claimBest_50b (fX10_claimBest_50 n) f l0 l1 l2 l3 l4 l6
theorem tX10_claimBest_50 {G : pz_G} {C : pz_C} {r : (Int32 × pz_H)} (hC : pz_OK G C cX10_claimBest 9 RX10) (hK : pz_K C (some .int) 10 233 0 0) : ∀ (N : Nat) (f : pz_H) (l0 : Nat) (l1 : Int32) (l2 : Int32) (l3 : Int32) (l4 : Int64) (l6 : Int32), fX10_claimBest_50 N f l0 l1 l2 l3 l4 l6 = some r → pz_W G C 9 50 [(0, .ref l0), (1, .int l1), (2, .int l2), (3, .int l3), (4, .long l4), (6, .int l6)] [] f 0 0 (pz_Q G C (some (.int r.1)) r.2 0 0) := by
  intro N
  induction N with
  | zero => intro f l0 l1 l2 l3 l4 l6 hf; cases hf
  | succ N ih => intro f l0 l1 l2 l3 l4 l6 hf; exact tX10_claimBest_50b hC hK (fun f l0 l1 l2 l3 l4 l6 hf => ih f l0 l1 l2 l3 l4 l6 hf) hf
def fnX10_claimBest (f : pz_H) (a0 : Nat) (p1 : Int32) : Option (Int32 × pz_H) :=
  (pz_is f a0 9).bind fun _ =>
  (pz_sV f a0 9 0 (.int (0 : Int32))).bind fun f1 =>
  (fnX10_isSpouse f1 a0 p1).bind fun x2 =>
  if x2 = 0 then fX10_claimBest_27 f1 else
  (pz_gR f1 a0 9 1).bind fun v3 =>
  (pz_aI f1 v3 0 ((1 : Int32))).bind fun v4 =>
  (fnX10_hasWorth f1 a0 p1 v4).bind fun x5 =>
  if x5 = 0 then fX10_claimBest_27 f1 else
  (fnX10_its f1 a0 p1 ((6 : Int32))).bind fun x6 =>
  (pz_gR f1 a0 9 1).bind fun v7 =>
  (pz_aI f1 v7 0 ((1 : Int32))).bind fun v8 =>
  fX10_claimBest_50 pz_F f1 a0 p1 x6 (((-1) : Int32)) ((0 : Int64)) v8
theorem mX10_claimBest {l : Launch} {G : pz_G} {f : pz_H} {a0 : Nat} {p1 : Int32} {r : (Int32 × pz_H)} (hf : fnX10_claimBest f a0 p1 = some r) : pz_Met l G yX10_claimBest cX10_claimBest 9 (some .int) 10 233 0 0 [.ref a0, .int p1] f (some (.int r.1)) r.2 ∧ pz_is f a0 9 = some () := by
  unfold fnX10_claimBest at hf
  obtain ⟨_, h0, hf⟩ := pz_bd hf
  refine ⟨pz_enter (by decide +kernel) (Nat.le_of_ble_eq_true rfl) (fun C hl hC hK hnm => ?_), h0⟩
  subst hl
  refine pz_sub (lv' := [(0, .ref a0), (1, .int p1)]) [0, 1] rfl ?_
  refine pz_aload_n hC dX10_claimBest_0 0 rfl ?_
  refine pz_iconst (v := (0 : Int32)) hC dX10_claimBest_1 (by decide) ?_
  refine pz_putV hC dX10_claimBest_2 fp_X10_48 rfl rfl hf (fun f1 hf => ?_)
  refine pz_aload_n hC dX10_claimBest_5 0 rfl ?_
  refine pz_iload_n hC dX10_claimBest_6 1 rfl ?_
  refine pz_Vi (As := [.int p1]) hC hK dX10_claimBest_7 py_X10_isSpouse pv_X10_isSpouse lk_X10_149 hf (fun _ h => mX10_isSpouse h) rfl rfl (Nat.le_of_ble_eq_true rfl) ⟨by decide, by decide⟩ ⟨by decide, by decide⟩ (fun x2 hf => ?_)
  refine pz_if_eq hC dX10_claimBest_10 hf (fun _ hf => ?_) (fun _ hf => ?_)
  · refine pz_sub [] rfl ?_
    exact tX10_claimBest_27 hC hK hf
  · refine pz_aload_n hC dX10_claimBest_13 0 rfl ?_
    refine pz_iload_n hC dX10_claimBest_14 1 rfl ?_
    refine pz_aload_n hC dX10_claimBest_15 0 rfl ?_
    refine pz_getR hC dX10_claimBest_16 fa_X10_7 hf (fun v3 hf => ?_)
    refine pz_iconst (v := (1 : Int32)) hC dX10_claimBest_19 (by decide) ?_
    refine pz_iald hC dX10_claimBest_20 hf (fun v4 hf => ?_)
    refine pz_Vi (As := [.int p1, .int v4]) hC hK dX10_claimBest_21 py_X10_hasWorth pv_X10_hasWorth lk_X10_191 hf (fun _ h => mX10_hasWorth h) rfl rfl (Nat.le_of_ble_eq_true rfl) ⟨by decide, by decide⟩ ⟨by decide, by decide⟩ (fun x5 hf => ?_)
    refine pz_if_ne hC dX10_claimBest_24 hf (fun _ hf => ?_) (fun _ hf => ?_)
    · refine pz_aload_n hC dX10_claimBest_29 0 rfl ?_
      refine pz_iload_n hC dX10_claimBest_30 1 rfl ?_
      refine pz_bipush (v := (6 : Int32)) hC dX10_claimBest_31 (by decide) ?_
      refine pz_Vi (As := [.int p1, .int (6 : Int32)]) hC hK dX10_claimBest_33 py_X10_its pv_X10_its lk_X10_56 hf (fun _ h => mX10_its h) rfl rfl (Nat.le_of_ble_eq_true rfl) ⟨by decide, by decide⟩ ⟨by decide, by decide⟩ (fun x6 hf => ?_)
      refine pz_istore_n hC dX10_claimBest_36 (by decide) rfl ?_
      refine pz_iconst (v := ((-1) : Int32)) hC dX10_claimBest_37 (by decide) ?_
      refine pz_istore_n hC dX10_claimBest_38 (by decide) rfl ?_
      refine pz_lconst (v := 0) hC dX10_claimBest_39 (by decide) ?_
      refine pz_lstore hC dX10_claimBest_40 (by decide) rfl ?_
      refine pz_aload_n hC dX10_claimBest_42 3 rfl ?_
      refine pz_getR hC dX10_claimBest_43 fa_X10_7 hf (fun v7 hf => ?_)
      refine pz_iconst (v := (1 : Int32)) hC dX10_claimBest_46 (by decide) ?_
      refine pz_iald hC dX10_claimBest_47 hf (fun v8 hf => ?_)
      refine pz_istore hC dX10_claimBest_48 (by decide) rfl ?_
      refine pz_sub [4, 5, 3, 2, 1, 0] rfl ?_
      exact tX10_claimBest_50 hC hK _ _ _ _ _ _ _ _ hf
    · refine pz_sub [] rfl ?_
      exact tX10_claimBest_27 hC hK hf
def fX10_half_35 (f : pz_H) : Option (Int32 × pz_H) :=
  some (((-1) : Int32), f)
theorem tX10_half_35 {G : pz_G} {C : pz_C} {f : pz_H} {r : (Int32 × pz_H)} (hC : pz_OK G C cX10_half 7 RX10) (hK : pz_K C (some .int) 10 233 0 0) (hf : fX10_half_35 f = some r) : pz_W G C 7 35 [] [] f 0 0 (pz_Q G C (some (.int r.1)) r.2 0 0) := by
  unfold fX10_half_35 at hf
  refine pz_iconst (v := ((-1) : Int32)) hC dX10_half_35 (by decide) ?_
  exact pz_iretw hC hK dX10_half_36 hf
def fX10_half_118 (k62 : pz_H → Nat → Int32 → Int64 → Int32 → Int32 → Int32 → Option (Int32 × pz_H)) (f : pz_H) (l0 : Nat) (l1 : Int32) (l2 : Int64) (l4 : Int32) (l6 : Int32) (s0 : Int32) : Option (Int32 × pz_H) :=
  k62 f l0 l1 l2 l4 s0 ((l6 + 1))
theorem tX10_half_118 {G : pz_G} {C : pz_C} {f : pz_H} {k62 : pz_H → Nat → Int32 → Int64 → Int32 → Int32 → Int32 → Option (Int32 × pz_H)} {l0 : Nat} {l1 : Int32} {l2 : Int64} {l4 : Int32} {l6 : Int32} {s0 : Int32} {r : (Int32 × pz_H)} (hC : pz_OK G C cX10_half 7 RX10) (hK : pz_K C (some .int) 10 233 0 0) (hk62 : ∀ (g : pz_H) (a0 : Nat) (a1 : Int32) (a2 : Int64) (a4 : Int32) (a5 : Int32) (a6 : Int32), k62 g a0 a1 a2 a4 a5 a6 = some r → pz_W G C 7 62 [(0, .ref a0), (1, .int a1), (2, .long a2), (4, .int a4), (5, .int a5), (6, .int a6)] [] g 0 0 (pz_Q G C (some (.int r.1)) r.2 0 0)) (hf : fX10_half_118 k62 f l0 l1 l2 l4 l6 s0 = some r) : pz_W G C 7 118 [(0, .ref l0), (1, .int l1), (2, .long l2), (4, .int l4), (6, .int l6)] [.int s0] f 0 0 (pz_Q G C (some (.int r.1)) r.2 0 0) := by
  unfold fX10_half_118 at hf
  refine pz_istore hC dX10_half_118 (by decide) rfl ?_
  refine pz_iinc (v := (l6 + 1)) hC dX10_half_120 5 rfl rfl (by decide) rfl ?_
  refine pz_goto hC dX10_half_123 ?_
  refine pz_sub [2, 3, 4, 5, 1, 0] rfl ?_
  exact hk62 _ _ _ _ _ _ _ hf
def fX10_half_126 (f : pz_H) (l0 : Nat) (l1 : Int32) (l4 : Int32) (l5 : Int32) : Option (Int32 × pz_H) :=
  (pz_gR f l0 9 1).bind fun v1 =>
  (pz_tI f v1 0 ((((35 : Int32) + ((8 : Int32) * l1)) + (3 : Int32))) l4).bind fun f2 =>
  some (l5, f2)
theorem tX10_half_126 {G : pz_G} {C : pz_C} {f : pz_H} {l0 : Nat} {l1 : Int32} {l4 : Int32} {l5 : Int32} {r : (Int32 × pz_H)} (hC : pz_OK G C cX10_half 7 RX10) (hK : pz_K C (some .int) 10 233 0 0) (hf : fX10_half_126 f l0 l1 l4 l5 = some r) : pz_W G C 7 126 [(0, .ref l0), (1, .int l1), (4, .int l4), (5, .int l5)] [] f 0 0 (pz_Q G C (some (.int r.1)) r.2 0 0) := by
  unfold fX10_half_126 at hf
  refine pz_aload_n hC dX10_half_126 0 rfl ?_
  refine pz_getR hC dX10_half_127 fa_X10_7 hf (fun v1 hf => ?_)
  refine pz_bipush (v := (35 : Int32)) hC dX10_half_130 (by decide) ?_
  refine pz_bipush (v := (8 : Int32)) hC dX10_half_132 (by decide) ?_
  refine pz_iload_n hC dX10_half_134 1 rfl ?_
  refine pz_imul hC dX10_half_135 ?_
  refine pz_iadd hC dX10_half_136 ?_
  refine pz_iconst (v := (3 : Int32)) hC dX10_half_137 (by decide) ?_
  refine pz_iadd hC dX10_half_138 ?_
  refine pz_iload hC dX10_half_139 2 rfl ?_
  refine pz_iast hC dX10_half_141 hf (fun f2 hf => ?_)
  refine pz_iload hC dX10_half_142 3 rfl ?_
  exact pz_iretw hC hK dX10_half_144 hf
def fX10_half_62b (k62 : pz_H → Nat → Int32 → Int64 → Int32 → Int32 → Int32 → Option (Int32 × pz_H)) (f : pz_H) (l0 : Nat) (l1 : Int32) (l2 : Int64) (l4 : Int32) (l5 : Int32) (l6 : Int32) : Option (Int32 × pz_H) :=
  if (1000 : Int32) < l6 then fX10_half_126 f l0 l1 l4 l5 else
  if l5 = ((-1) : Int32) then (pz_gR f l0 9 1).bind fun v1 =>
  (pz_tI f v1 0 ((((35 : Int32) + ((8 : Int32) * l1)) + (3 : Int32))) l6).bind fun f2 =>
  (pz_gR f2 l0 9 1).bind fun v3 =>
  (pz_aI f2 v3 0 ((1 : Int32))).bind fun v4 =>
  (fnX10_worthOfSpouse f2 l0 l1 v4).bind fun x5 =>
  if (lg_cmp (((2 : Int64) * x5.1)) l2) < 0 then fX10_half_118 k62 x5.2 l0 l1 l2 l4 l6 (((-1) : Int32)) else
  fX10_half_118 k62 x5.2 l0 l1 l2 l4 l6 l6 else
  fX10_half_126 f l0 l1 l4 l5
theorem tX10_half_62b {G : pz_G} {C : pz_C} {f : pz_H} {k62 : pz_H → Nat → Int32 → Int64 → Int32 → Int32 → Int32 → Option (Int32 × pz_H)} {l0 : Nat} {l1 : Int32} {l2 : Int64} {l4 : Int32} {l5 : Int32} {l6 : Int32} {r : (Int32 × pz_H)} (hC : pz_OK G C cX10_half 7 RX10) (hK : pz_K C (some .int) 10 233 0 0) (hk62 : ∀ (g : pz_H) (a0 : Nat) (a1 : Int32) (a2 : Int64) (a4 : Int32) (a5 : Int32) (a6 : Int32), k62 g a0 a1 a2 a4 a5 a6 = some r → pz_W G C 7 62 [(0, .ref a0), (1, .int a1), (2, .long a2), (4, .int a4), (5, .int a5), (6, .int a6)] [] g 0 0 (pz_Q G C (some (.int r.1)) r.2 0 0)) (hf : fX10_half_62b k62 f l0 l1 l2 l4 l5 l6 = some r) : pz_W G C 7 62 [(0, .ref l0), (1, .int l1), (2, .long l2), (4, .int l4), (5, .int l5), (6, .int l6)] [] f 0 0 (pz_Q G C (some (.int r.1)) r.2 0 0) := by
  unfold fX10_half_62b at hf
  refine pz_iload hC dX10_half_62 5 rfl ?_
  refine pz_sipush (v := (1000 : Int32)) hC dX10_half_64 (by decide) ?_
  refine pz_icmp_gt hC dX10_half_67 hf (fun _ hf => ?_) (fun _ hf => ?_)
  · refine pz_sub [0, 1, 3, 4] rfl ?_
    exact tX10_half_126 hC hK hf
  · refine pz_iload hC dX10_half_70 4 rfl ?_
    refine pz_iconst (v := ((-1) : Int32)) hC dX10_half_72 (by decide) ?_
    refine pz_icmp_ne hC dX10_half_73 hf (fun _ hf => ?_) (fun _ hf => ?_)
    · refine pz_sub [0, 1, 3, 4] rfl ?_
      exact tX10_half_126 hC hK hf
    · refine pz_aload_n hC dX10_half_76 0 rfl ?_
      refine pz_getR hC dX10_half_77 fa_X10_7 hf (fun v1 hf => ?_)
      refine pz_bipush (v := (35 : Int32)) hC dX10_half_80 (by decide) ?_
      refine pz_bipush (v := (8 : Int32)) hC dX10_half_82 (by decide) ?_
      refine pz_iload_n hC dX10_half_84 1 rfl ?_
      refine pz_imul hC dX10_half_85 ?_
      refine pz_iadd hC dX10_half_86 ?_
      refine pz_iconst (v := (3 : Int32)) hC dX10_half_87 (by decide) ?_
      refine pz_iadd hC dX10_half_88 ?_
      refine pz_iload hC dX10_half_89 5 rfl ?_
      refine pz_iast hC dX10_half_91 hf (fun f2 hf => ?_)
      refine pz_ldc2 hC dX10_half_92 ck_X10_200 ?_
      refine pz_aload_n hC dX10_half_95 0 rfl ?_
      refine pz_iload_n hC dX10_half_96 1 rfl ?_
      refine pz_aload_n hC dX10_half_97 0 rfl ?_
      refine pz_getR hC dX10_half_98 fa_X10_7 hf (fun v3 hf => ?_)
      refine pz_iconst (v := (1 : Int32)) hC dX10_half_101 (by decide) ?_
      refine pz_iald hC dX10_half_102 hf (fun v4 hf => ?_)
      refine pz_Vlw (As := [.int l1, .int v4]) hC hK dX10_half_103 py_X10_worthOfSpouse pv_X10_worthOfSpouse lk_X10_197 hf (fun _ h => mX10_worthOfSpouse h) rfl rfl (Nat.le_of_ble_eq_true rfl) ⟨by decide, by decide⟩ ⟨by decide, by decide⟩ (fun x5 hf => ?_)
      refine pz_lmul hC dX10_half_106 ?_
      refine pz_lload_n hC dX10_half_107 2 rfl ?_
      refine pz_lcmp hC dX10_half_108 ?_
      refine pz_if_lt hC dX10_half_109 hf (fun _ hf => ?_) (fun _ hf => ?_)
      · refine pz_iconst (v := ((-1) : Int32)) hC dX10_half_117 (by decide) ?_
        refine pz_sub [0, 1, 2, 3, 5] rfl ?_
        exact tX10_half_118 hC hK hk62 hf
      · refine pz_iload hC dX10_half_112 5 rfl ?_
        refine pz_goto hC dX10_half_114 ?_
        refine pz_sub [0, 1, 2, 3, 5] rfl ?_
        exact tX10_half_118 hC hK hk62 hf
def fX10_half_62 : Nat → pz_H → Nat → Int32 → Int64 → Int32 → Int32 → Int32 → Option (Int32 × pz_H)
  | 0, _, _, _, _, _, _, _ => none
  | n + 1, f, l0, l1, l2, l4, l5, l6 => fX10_half_62b (fX10_half_62 n) f l0 l1 l2 l4 l5 l6
theorem tX10_half_62 {G : pz_G} {C : pz_C} {r : (Int32 × pz_H)} (hC : pz_OK G C cX10_half 7 RX10) (hK : pz_K C (some .int) 10 233 0 0) : ∀ (N : Nat) (f : pz_H) (l0 : Nat) (l1 : Int32) (l2 : Int64) (l4 : Int32) (l5 : Int32) (l6 : Int32), fX10_half_62 N f l0 l1 l2 l4 l5 l6 = some r → pz_W G C 7 62 [(0, .ref l0), (1, .int l1), (2, .long l2), (4, .int l4), (5, .int l5), (6, .int l6)] [] f 0 0 (pz_Q G C (some (.int r.1)) r.2 0 0) := by
  intro N
  induction N with
  | zero => intro f l0 l1 l2 l4 l5 l6 hf; cases hf
  | succ N ih => intro f l0 l1 l2 l4 l5 l6 hf; exact tX10_half_62b hC hK (fun f l0 l1 l2 l4 l5 l6 hf => ih f l0 l1 l2 l4 l5 l6 hf) hf
def fnX10_half (f : pz_H) (a0 : Nat) (p1 : Int32) : Option (Int32 × pz_H) :=
  (pz_is f a0 9).bind fun _ =>
  (pz_sV f a0 9 0 (.int (0 : Int32))).bind fun f1 =>
  (fnX10_isSpouse f1 a0 p1).bind fun x2 =>
  if x2 = 0 then fX10_half_35 f1 else
  (fnX10_isParted f1 a0 p1).bind fun x3 =>
  if x3 = 0 then fX10_half_35 f1 else
  (pz_gR f1 a0 9 1).bind fun v4 =>
  (pz_aI f1 v4 0 ((1 : Int32))).bind fun v5 =>
  (fnX10_hasWorth f1 a0 p1 v5).bind fun x6 =>
  if x6 = 0 then fX10_half_35 f1 else
  (pz_gR f1 a0 9 1).bind fun v7 =>
  (pz_aI f1 v7 0 ((1 : Int32))).bind fun v8 =>
  (fnX10_worthOfAll f1 a0 v8).bind fun x9 =>
  (fnX10_its x9.2 a0 p1 ((3 : Int32))).bind fun x10 =>
  fX10_half_62 pz_F x9.2 a0 p1 x9.1 x10 (((-1) : Int32)) ((0 : Int32))
theorem mX10_half {l : Launch} {G : pz_G} {f : pz_H} {a0 : Nat} {p1 : Int32} {r : (Int32 × pz_H)} (hf : fnX10_half f a0 p1 = some r) : pz_Met l G yX10_half cX10_half 7 (some .int) 10 233 0 0 [.ref a0, .int p1] f (some (.int r.1)) r.2 ∧ pz_is f a0 9 = some () := by
  unfold fnX10_half at hf
  obtain ⟨_, h0, hf⟩ := pz_bd hf
  refine ⟨pz_enter (by decide +kernel) (Nat.le_of_ble_eq_true rfl) (fun C hl hC hK hnm => ?_), h0⟩
  subst hl
  refine pz_sub (lv' := [(0, .ref a0), (1, .int p1)]) [0, 1] rfl ?_
  refine pz_aload_n hC dX10_half_0 0 rfl ?_
  refine pz_iconst (v := (0 : Int32)) hC dX10_half_1 (by decide) ?_
  refine pz_putV hC dX10_half_2 fp_X10_48 rfl rfl hf (fun f1 hf => ?_)
  refine pz_aload_n hC dX10_half_5 0 rfl ?_
  refine pz_iload_n hC dX10_half_6 1 rfl ?_
  refine pz_Vi (As := [.int p1]) hC hK dX10_half_7 py_X10_isSpouse pv_X10_isSpouse lk_X10_149 hf (fun _ h => mX10_isSpouse h) rfl rfl (Nat.le_of_ble_eq_true rfl) ⟨by decide, by decide⟩ ⟨by decide, by decide⟩ (fun x2 hf => ?_)
  refine pz_if_eq hC dX10_half_10 hf (fun _ hf => ?_) (fun _ hf => ?_)
  · refine pz_sub [] rfl ?_
    exact tX10_half_35 hC hK hf
  · refine pz_aload_n hC dX10_half_13 0 rfl ?_
    refine pz_iload_n hC dX10_half_14 1 rfl ?_
    refine pz_Vi (As := [.int p1]) hC hK dX10_half_15 py_X10_isParted pv_X10_isParted lk_X10_91 hf (fun _ h => mX10_isParted h) rfl rfl (Nat.le_of_ble_eq_true rfl) ⟨by decide, by decide⟩ ⟨by decide, by decide⟩ (fun x3 hf => ?_)
    refine pz_if_eq hC dX10_half_18 hf (fun _ hf => ?_) (fun _ hf => ?_)
    · refine pz_sub [] rfl ?_
      exact tX10_half_35 hC hK hf
    · refine pz_aload_n hC dX10_half_21 0 rfl ?_
      refine pz_iload_n hC dX10_half_22 1 rfl ?_
      refine pz_aload_n hC dX10_half_23 0 rfl ?_
      refine pz_getR hC dX10_half_24 fa_X10_7 hf (fun v4 hf => ?_)
      refine pz_iconst (v := (1 : Int32)) hC dX10_half_27 (by decide) ?_
      refine pz_iald hC dX10_half_28 hf (fun v5 hf => ?_)
      refine pz_Vi (As := [.int p1, .int v5]) hC hK dX10_half_29 py_X10_hasWorth pv_X10_hasWorth lk_X10_191 hf (fun _ h => mX10_hasWorth h) rfl rfl (Nat.le_of_ble_eq_true rfl) ⟨by decide, by decide⟩ ⟨by decide, by decide⟩ (fun x6 hf => ?_)
      refine pz_if_ne hC dX10_half_32 hf (fun _ hf => ?_) (fun _ hf => ?_)
      · refine pz_aload_n hC dX10_half_37 0 rfl ?_
        refine pz_aload_n hC dX10_half_38 0 rfl ?_
        refine pz_getR hC dX10_half_39 fa_X10_7 hf (fun v7 hf => ?_)
        refine pz_iconst (v := (1 : Int32)) hC dX10_half_42 (by decide) ?_
        refine pz_iald hC dX10_half_43 hf (fun v8 hf => ?_)
        refine pz_Vlw (As := [.int v8]) hC hK dX10_half_44 py_X10_worthOfAll pv_X10_worthOfAll lk_X10_194 hf (fun _ h => mX10_worthOfAll h) rfl rfl (Nat.le_of_ble_eq_true rfl) ⟨by decide, by decide⟩ ⟨by decide, by decide⟩ (fun x9 hf => ?_)
        refine pz_lstore_n hC dX10_half_47 (by decide) rfl ?_
        refine pz_aload_n hC dX10_half_48 1 rfl ?_
        refine pz_iload_n hC dX10_half_49 2 rfl ?_
        refine pz_iconst (v := (3 : Int32)) hC dX10_half_50 (by decide) ?_
        refine pz_Vi (As := [.int p1, .int (3 : Int32)]) hC hK dX10_half_51 py_X10_its pv_X10_its lk_X10_56 hf (fun _ h => mX10_its h) rfl rfl (Nat.le_of_ble_eq_true rfl) ⟨by decide, by decide⟩ ⟨by decide, by decide⟩ (fun x10 hf => ?_)
        refine pz_istore hC dX10_half_54 (by decide) rfl ?_
        refine pz_iconst (v := ((-1) : Int32)) hC dX10_half_56 (by decide) ?_
        refine pz_istore hC dX10_half_57 (by decide) rfl ?_
        refine pz_iconst (v := (0 : Int32)) hC dX10_half_59 (by decide) ?_
        refine pz_istore hC dX10_half_60 (by decide) rfl ?_
        refine pz_sub [4, 5, 3, 2, 1, 0] rfl ?_
        exact tX10_half_62 hC hK _ _ _ _ _ _ _ _ hf
      · refine pz_sub [] rfl ?_
        exact tX10_half_35 hC hK hf
def fX10_keeps_51b (k51 : pz_H → Nat → Nat → Int32 → Option pz_H) (f : pz_H) (l0 : Nat) (l1 : Nat) (l2 : Int32) : Option pz_H :=
  if (87 : Int32) ≤ l2 then (pz_gI f l0 9 4).bind fun v1 =>
  (pz_sV f l0 9 4 (.int (v1 + (1 : Int32)))).bind fun f2 =>
  some f2 else
  (pz_gR f l0 9 2).bind fun v3 =>
  (pz_gI f l0 9 4).bind fun v4 =>
  (pz_aI f l1 0 l2).bind fun v5 =>
  (pz_tI f v3 0 ((((87 : Int32) * v4) + l2)) v5).bind fun f6 =>
  k51 f6 l0 l1 ((l2 + 1))
theorem tX10_keeps_51b {G : pz_G} {C : pz_C} {f : pz_H} {k51 : pz_H → Nat → Nat → Int32 → Option pz_H} {l0 : Nat} {l1 : Nat} {l2 : Int32} {r : pz_H} (hC : pz_OK G C cX10_keeps 3 RX10) (hK : pz_K C none 0 0 0 0) (hk51 : ∀ (g : pz_H) (a0 : Nat) (a1 : Nat) (a2 : Int32), k51 g a0 a1 a2 = some r → pz_W G C 3 51 [(0, .ref a0), (1, .ref a1), (2, .int a2)] [] g 0 0 (pz_Q G C none r 0 0)) (hf : fX10_keeps_51b k51 f l0 l1 l2 = some r) : pz_W G C 3 51 [(0, .ref l0), (1, .ref l1), (2, .int l2)] [] f 0 0 (pz_Q G C none r 0 0) := by
  unfold fX10_keeps_51b at hf
  refine pz_iload_n hC dX10_keeps_51 2 rfl ?_
  refine pz_bipush (v := (87 : Int32)) hC dX10_keeps_52 (by decide) ?_
  refine pz_icmp_ge hC dX10_keeps_54 hf (fun _ hf => ?_) (fun _ hf => ?_)
  · refine pz_aload_n hC dX10_keeps_80 0 rfl ?_
    refine pz_dup hC dX10_keeps_81 rfl ?_
    refine pz_getI hC dX10_keeps_82 fa_X10_172 hf (fun v1 hf => ?_)
    refine pz_iconst (v := (1 : Int32)) hC dX10_keeps_85 (by decide) ?_
    refine pz_iadd hC dX10_keeps_86 ?_
    refine pz_putV hC dX10_keeps_87 fp_X10_172 rfl rfl hf (fun f2 hf => ?_)
    exact pz_vret hC hK dX10_keeps_90 hf
  · refine pz_aload_n hC dX10_keeps_57 0 rfl ?_
    refine pz_getR hC dX10_keeps_58 fa_X10_13 hf (fun v3 hf => ?_)
    refine pz_bipush (v := (87 : Int32)) hC dX10_keeps_61 (by decide) ?_
    refine pz_aload_n hC dX10_keeps_63 0 rfl ?_
    refine pz_getI hC dX10_keeps_64 fa_X10_172 hf (fun v4 hf => ?_)
    refine pz_imul hC dX10_keeps_67 ?_
    refine pz_iload_n hC dX10_keeps_68 2 rfl ?_
    refine pz_iadd hC dX10_keeps_69 ?_
    refine pz_aload_n hC dX10_keeps_70 1 rfl ?_
    refine pz_iload_n hC dX10_keeps_71 2 rfl ?_
    refine pz_iald hC dX10_keeps_72 hf (fun v5 hf => ?_)
    refine pz_iast hC dX10_keeps_73 hf (fun f6 hf => ?_)
    refine pz_iinc (v := (l2 + 1)) hC dX10_keeps_74 2 rfl rfl (by decide) rfl ?_
    refine pz_goto hC dX10_keeps_77 ?_
    refine pz_sub [1, 2, 0] rfl ?_
    exact hk51 _ _ _ _ hf
def fX10_keeps_51 : Nat → pz_H → Nat → Nat → Int32 → Option pz_H
  | 0, _, _, _, _ => none
  | n + 1, f, l0, l1, l2 => fX10_keeps_51b (fX10_keeps_51 n) f l0 l1 l2
theorem tX10_keeps_51 {G : pz_G} {C : pz_C} {r : pz_H} (hC : pz_OK G C cX10_keeps 3 RX10) (hK : pz_K C none 0 0 0 0) : ∀ (N : Nat) (f : pz_H) (l0 : Nat) (l1 : Nat) (l2 : Int32), fX10_keeps_51 N f l0 l1 l2 = some r → pz_W G C 3 51 [(0, .ref l0), (1, .ref l1), (2, .int l2)] [] f 0 0 (pz_Q G C none r 0 0) := by
  intro N
  induction N with
  | zero => intro f l0 l1 l2 hf; cases hf
  | succ N ih => intro f l0 l1 l2 hf; exact tX10_keeps_51b hC hK (fun f l0 l1 l2 hf => ih f l0 l1 l2 hf) hf
def fX10_keeps_49 (f : pz_H) (l0 : Nat) (l1 : Nat) : Option pz_H :=
  fX10_keeps_51 pz_F f l0 l1 ((0 : Int32))
theorem tX10_keeps_49 {G : pz_G} {C : pz_C} {f : pz_H} {l0 : Nat} {l1 : Nat} {r : pz_H} (hC : pz_OK G C cX10_keeps 3 RX10) (hK : pz_K C none 0 0 0 0) (hf : fX10_keeps_49 f l0 l1 = some r) : pz_W G C 3 49 [(0, .ref l0), (1, .ref l1)] [] f 0 0 (pz_Q G C none r 0 0) := by
  unfold fX10_keeps_49 at hf
  refine pz_iconst (v := (0 : Int32)) hC dX10_keeps_49 (by decide) ?_
  refine pz_istore_n hC dX10_keeps_50 (by decide) rfl ?_
  refine pz_sub [1, 2, 0] rfl ?_
  exact tX10_keeps_51 hC hK _ _ _ _ _ hf
def fX10_keeps_11b (k11 : pz_H → Nat → Nat → Int32 → Option pz_H) (f : pz_H) (l0 : Nat) (l1 : Nat) (l2 : Int32) : Option pz_H :=
  if (957 : Int32) ≤ l2 then (pz_gI f l0 9 4).bind fun v1 =>
  (pz_sV f l0 9 4 (.int (v1 - (1 : Int32)))).bind fun f2 =>
  fX10_keeps_49 f2 l0 l1 else
  (pz_gR f l0 9 2).bind fun v3 =>
  (pz_gR f l0 9 2).bind fun v4 =>
  (pz_aI f v4 0 ((l2 + (87 : Int32)))).bind fun v5 =>
  (pz_tI f v3 0 l2 v5).bind fun f6 =>
  k11 f6 l0 l1 ((l2 + 1))
theorem tX10_keeps_11b {G : pz_G} {C : pz_C} {f : pz_H} {k11 : pz_H → Nat → Nat → Int32 → Option pz_H} {l0 : Nat} {l1 : Nat} {l2 : Int32} {r : pz_H} (hC : pz_OK G C cX10_keeps 3 RX10) (hK : pz_K C none 0 0 0 0) (hk11 : ∀ (g : pz_H) (a0 : Nat) (a1 : Nat) (a2 : Int32), k11 g a0 a1 a2 = some r → pz_W G C 3 11 [(0, .ref a0), (1, .ref a1), (2, .int a2)] [] g 0 0 (pz_Q G C none r 0 0)) (hf : fX10_keeps_11b k11 f l0 l1 l2 = some r) : pz_W G C 3 11 [(0, .ref l0), (1, .ref l1), (2, .int l2)] [] f 0 0 (pz_Q G C none r 0 0) := by
  unfold fX10_keeps_11b at hf
  refine pz_iload_n hC dX10_keeps_11 2 rfl ?_
  refine pz_sipush (v := (957 : Int32)) hC dX10_keeps_12 (by decide) ?_
  refine pz_icmp_ge hC dX10_keeps_15 hf (fun _ hf => ?_) (fun _ hf => ?_)
  · refine pz_aload_n hC dX10_keeps_39 0 rfl ?_
    refine pz_dup hC dX10_keeps_40 rfl ?_
    refine pz_getI hC dX10_keeps_41 fa_X10_172 hf (fun v1 hf => ?_)
    refine pz_iconst (v := (1 : Int32)) hC dX10_keeps_44 (by decide) ?_
    refine pz_isub hC dX10_keeps_45 ?_
    refine pz_putV hC dX10_keeps_46 fp_X10_172 rfl rfl hf (fun f2 hf => ?_)
    refine pz_sub [0, 1] rfl ?_
    exact tX10_keeps_49 hC hK hf
  · refine pz_aload_n hC dX10_keeps_18 0 rfl ?_
    refine pz_getR hC dX10_keeps_19 fa_X10_13 hf (fun v3 hf => ?_)
    refine pz_iload_n hC dX10_keeps_22 2 rfl ?_
    refine pz_aload_n hC dX10_keeps_23 0 rfl ?_
    refine pz_getR hC dX10_keeps_24 fa_X10_13 hf (fun v4 hf => ?_)
    refine pz_iload_n hC dX10_keeps_27 2 rfl ?_
    refine pz_bipush (v := (87 : Int32)) hC dX10_keeps_28 (by decide) ?_
    refine pz_iadd hC dX10_keeps_30 ?_
    refine pz_iald hC dX10_keeps_31 hf (fun v5 hf => ?_)
    refine pz_iast hC dX10_keeps_32 hf (fun f6 hf => ?_)
    refine pz_iinc (v := (l2 + 1)) hC dX10_keeps_33 2 rfl rfl (by decide) rfl ?_
    refine pz_goto hC dX10_keeps_36 ?_
    refine pz_sub [1, 2, 0] rfl ?_
    exact hk11 _ _ _ _ hf
def fX10_keeps_11 : Nat → pz_H → Nat → Nat → Int32 → Option pz_H
  | 0, _, _, _, _ => none
  | n + 1, f, l0, l1, l2 => fX10_keeps_11b (fX10_keeps_11 n) f l0 l1 l2
theorem tX10_keeps_11 {G : pz_G} {C : pz_C} {r : pz_H} (hC : pz_OK G C cX10_keeps 3 RX10) (hK : pz_K C none 0 0 0 0) : ∀ (N : Nat) (f : pz_H) (l0 : Nat) (l1 : Nat) (l2 : Int32), fX10_keeps_11 N f l0 l1 l2 = some r → pz_W G C 3 11 [(0, .ref l0), (1, .ref l1), (2, .int l2)] [] f 0 0 (pz_Q G C none r 0 0) := by
  intro N
  induction N with
  | zero => intro f l0 l1 l2 hf; cases hf
  | succ N ih => intro f l0 l1 l2 hf; exact tX10_keeps_11b hC hK (fun f l0 l1 l2 hf => ih f l0 l1 l2 hf) hf
def fnX10_keeps (f : pz_H) (a0 : Nat) (p1 : Nat) : Option pz_H :=
  (pz_is f a0 9).bind fun _ =>
  (pz_gI f a0 9 4).bind fun v1 =>
  if v1 = (12 : Int32) then fX10_keeps_11 pz_F f a0 p1 ((0 : Int32)) else
  fX10_keeps_49 f a0 p1
theorem mX10_keeps {l : Launch} {G : pz_G} {f : pz_H} {a0 : Nat} {p1 : Nat} {r : pz_H} (hf : fnX10_keeps f a0 p1 = some r) : pz_Met l G yX10_keeps cX10_keeps 3 none 0 0 0 0 [.ref a0, .ref p1] f none r ∧ pz_is f a0 9 = some () := by
  unfold fnX10_keeps at hf
  obtain ⟨_, h0, hf⟩ := pz_bd hf
  refine ⟨pz_enter (by decide +kernel) (Nat.le_of_ble_eq_true rfl) (fun C hl hC hK hnm => ?_), h0⟩
  subst hl
  refine pz_sub (lv' := [(0, .ref a0), (1, .ref p1)]) [0, 1] rfl ?_
  refine pz_aload_n hC dX10_keeps_0 0 rfl ?_
  refine pz_getI hC dX10_keeps_1 fa_X10_172 hf (fun v1 hf => ?_)
  refine pz_bipush (v := (12 : Int32)) hC dX10_keeps_4 (by decide) ?_
  refine pz_icmp_ne hC dX10_keeps_6 hf (fun _ hf => ?_) (fun _ hf => ?_)
  · exact tX10_keeps_49 hC hK hf
  · refine pz_iconst (v := (0 : Int32)) hC dX10_keeps_9 (by decide) ?_
    refine pz_istore_n hC dX10_keeps_10 (by decide) rfl ?_
    refine pz_sub [1, 2, 0] rfl ?_
    exact tX10_keeps_11 hC hK _ _ _ _ _ hf
def fX10_lastService_26 (f : pz_H) (s0 : Int32) : Option Int32 :=
  some s0
theorem tX10_lastService_26 {G : pz_G} {C : pz_C} {f : pz_H} {s0 : Int32} {r : Int32} (hC : pz_OK G C cX10_lastService 1 RX10) (hK : pz_K C (some .int) 1 22 0 0) (hf : fX10_lastService_26 f s0 = some r) : pz_W G C 1 26 [] [.int s0] f 0 0 (pz_Q G C (some (.int r)) f 0 0) := by
  unfold fX10_lastService_26 at hf
  exact pz_iret hC hK dX10_lastService_26 hf
def fnX10_lastService (f : pz_H) (a0 : Nat) : Option Int32 :=
  (pz_is f a0 9).bind fun _ =>
  (pz_gR f a0 9 1).bind fun v1 =>
  (pz_aI f v1 0 ((3 : Int32))).bind fun v2 =>
  if v2 = 0 then fX10_lastService_26 f ((0 : Int32)) else
  (pz_gR f a0 9 1).bind fun v3 =>
  (pz_aI f v3 0 ((3 : Int32))).bind fun v4 =>
  (fnX10_spanOf f a0 ((v4 - (1 : Int32))) ((1 : Int32))).bind fun x5 =>
  fX10_lastService_26 f x5
theorem mX10_lastService {l : Launch} {G : pz_G} {f : pz_H} {a0 : Nat} {r : Int32} (hf : fnX10_lastService f a0 = some r) : pz_Met l G yX10_lastService cX10_lastService 1 (some .int) 1 22 0 0 [.ref a0] f (some (.int r)) f ∧ pz_is f a0 9 = some () := by
  unfold fnX10_lastService at hf
  obtain ⟨_, h0, hf⟩ := pz_bd hf
  refine ⟨pz_enter (by decide +kernel) (Nat.le_of_ble_eq_true rfl) (fun C hl hC hK hnm => ?_), h0⟩
  subst hl
  refine pz_sub (lv' := [(0, .ref a0)]) [0] rfl ?_
  refine pz_aload_n hC dX10_lastService_0 0 rfl ?_
  refine pz_getR hC dX10_lastService_1 fa_X10_7 hf (fun v1 hf => ?_)
  refine pz_iconst (v := (3 : Int32)) hC dX10_lastService_4 (by decide) ?_
  refine pz_iald hC dX10_lastService_5 hf (fun v2 hf => ?_)
  refine pz_if_ne hC dX10_lastService_6 hf (fun _ hf => ?_) (fun _ hf => ?_)
  · refine pz_aload_n hC dX10_lastService_13 0 rfl ?_
    refine pz_aload_n hC dX10_lastService_14 0 rfl ?_
    refine pz_getR hC dX10_lastService_15 fa_X10_7 hf (fun v3 hf => ?_)
    refine pz_iconst (v := (3 : Int32)) hC dX10_lastService_18 (by decide) ?_
    refine pz_iald hC dX10_lastService_19 hf (fun v4 hf => ?_)
    refine pz_iconst (v := (1 : Int32)) hC dX10_lastService_20 (by decide) ?_
    refine pz_isub hC dX10_lastService_21 ?_
    refine pz_iconst (v := (1 : Int32)) hC dX10_lastService_22 (by decide) ?_
    refine pz_Vi (As := [.int (v4 - (1 : Int32)), .int (1 : Int32)]) hC hK dX10_lastService_23 py_X10_spanOf pv_X10_spanOf lk_X10_60 hf (fun _ h => mX10_spanOf h) rfl rfl (Nat.le_of_ble_eq_true rfl) ⟨by decide, by decide⟩ ⟨by decide, by decide⟩ (fun x5 hf => ?_)
    refine pz_sub [] rfl ?_
    exact tX10_lastService_26 hC hK hf
  · refine pz_iconst (v := (0 : Int32)) hC dX10_lastService_9 (by decide) ?_
    refine pz_goto hC dX10_lastService_10 ?_
    refine pz_sub [] rfl ?_
    exact tX10_lastService_26 hC hK hf
def fX10_canRetire_30 (f : pz_H) (s0 : Int32) : Option Int32 :=
  pz_b s0
theorem tX10_canRetire_30 {G : pz_G} {C : pz_C} {f : pz_H} {s0 : Int32} {r : Int32} (hC : pz_OK G C cX10_canRetire 2 RX10) (hK : pz_K C (some .boolean) 2 42 0 0) (hf : fX10_canRetire_30 f s0 = some r) : pz_W G C 2 30 [] [.int s0] f 0 0 (pz_Q G C (some (.int r)) f 0 0) := by
  unfold fX10_canRetire_30 at hf
  exact pz_zret hC hK dX10_canRetire_30 hf
def fX10_canRetire_29 (f : pz_H) : Option Int32 :=
  fX10_canRetire_30 f ((0 : Int32))
theorem tX10_canRetire_29 {G : pz_G} {C : pz_C} {f : pz_H} {r : Int32} (hC : pz_OK G C cX10_canRetire 2 RX10) (hK : pz_K C (some .boolean) 2 42 0 0) (hf : fX10_canRetire_29 f = some r) : pz_W G C 2 29 [] [] f 0 0 (pz_Q G C (some (.int r)) f 0 0) := by
  unfold fX10_canRetire_29 at hf
  refine pz_iconst (v := (0 : Int32)) hC dX10_canRetire_29 (by decide) ?_
  exact tX10_canRetire_30 hC hK hf
def fnX10_canRetire (f : pz_H) (a0 : Nat) (p1 : Int32) : Option Int32 :=
  (pz_is f a0 9).bind fun _ =>
  (fnX10_isMonth p1).bind fun x1 =>
  if x1 = 0 then fX10_canRetire_29 f else
  (pz_gR f a0 9 1).bind fun v2 =>
  (pz_aI f v2 0 ((0 : Int32))).bind fun v3 =>
  if p1 < v3 then fX10_canRetire_29 f else
  (fnX10_lastService f a0).bind fun x4 =>
  if p1 < x4 then fX10_canRetire_29 f else
  fX10_canRetire_30 f ((1 : Int32))
theorem mX10_canRetire {l : Launch} {G : pz_G} {f : pz_H} {a0 : Nat} {p1 : Int32} {r : Int32} (hf : fnX10_canRetire f a0 p1 = some r) : pz_Met l G yX10_canRetire cX10_canRetire 2 (some .boolean) 2 42 0 0 [.ref a0, .int p1] f (some (.int r)) f ∧ pz_is f a0 9 = some () := by
  unfold fnX10_canRetire at hf
  obtain ⟨_, h0, hf⟩ := pz_bd hf
  refine ⟨pz_enter (by decide +kernel) (Nat.le_of_ble_eq_true rfl) (fun C hl hC hK hnm => ?_), h0⟩
  subst hl
  refine pz_sub (lv' := [(0, .ref a0), (1, .int p1)]) [0, 1] rfl ?_
  refine pz_iload_n hC dX10_canRetire_0 1 rfl ?_
  refine pz_Si (As := [.int p1]) hC hK dX10_canRetire_1 py_X10_isMonth ps_X10_isMonth lk_X10_155 hf (fun _ h => mX10_isMonth h) rfl rfl (Nat.le_of_ble_eq_true rfl) ⟨by decide, by decide⟩ ⟨by decide, by decide⟩ (fun x1 hf => ?_)
  refine pz_if_eq hC dX10_canRetire_4 hf (fun _ hf => ?_) (fun _ hf => ?_)
  · refine pz_sub [] rfl ?_
    exact tX10_canRetire_29 hC hK hf
  · refine pz_iload_n hC dX10_canRetire_7 1 rfl ?_
    refine pz_aload_n hC dX10_canRetire_8 0 rfl ?_
    refine pz_getR hC dX10_canRetire_9 fa_X10_7 hf (fun v2 hf => ?_)
    refine pz_iconst (v := (0 : Int32)) hC dX10_canRetire_12 (by decide) ?_
    refine pz_iald hC dX10_canRetire_13 hf (fun v3 hf => ?_)
    refine pz_icmp_lt hC dX10_canRetire_14 hf (fun _ hf => ?_) (fun _ hf => ?_)
    · refine pz_sub [] rfl ?_
      exact tX10_canRetire_29 hC hK hf
    · refine pz_iload_n hC dX10_canRetire_17 1 rfl ?_
      refine pz_aload_n hC dX10_canRetire_18 0 rfl ?_
      refine pz_Vi (As := []) hC hK dX10_canRetire_19 py_X10_lastService pv_X10_lastService lk_X10_202 hf (fun _ h => mX10_lastService h) rfl rfl (Nat.le_of_ble_eq_true rfl) ⟨by decide, by decide⟩ ⟨by decide, by decide⟩ (fun x4 hf => ?_)
      refine pz_icmp_lt hC dX10_canRetire_22 hf (fun _ hf => ?_) (fun _ hf => ?_)
      · refine pz_sub [] rfl ?_
        exact tX10_canRetire_29 hC hK hf
      · refine pz_iconst (v := (1 : Int32)) hC dX10_canRetire_25 (by decide) ?_
        refine pz_goto hC dX10_canRetire_26 ?_
        refine pz_sub [] rfl ?_
        exact tX10_canRetire_30 hC hK hf
def fX10_placeOf_37 (f : pz_H) (s0 : Int32) : Option Int32 :=
  some s0
theorem tX10_placeOf_37 {G : pz_G} {C : pz_C} {f : pz_H} {s0 : Int32} {r : Int32} (hC : pz_OK G C cX10_placeOf 5 RX10) (hK : pz_K C (some .int) 3 63 0 0) (hf : fX10_placeOf_37 f s0 = some r) : pz_W G C 5 37 [] [.int s0] f 0 0 (pz_Q G C (some (.int r)) f 0 0) := by
  unfold fX10_placeOf_37 at hf
  exact pz_iret hC hK dX10_placeOf_37 hf
def fX10_placeOf_60 (f : pz_H) (s0 : Int32) : Option Int32 :=
  some s0
theorem tX10_placeOf_60 {G : pz_G} {C : pz_C} {f : pz_H} {s0 : Int32} {r : Int32} (hC : pz_OK G C cX10_placeOf 5 RX10) (hK : pz_K C (some .int) 3 63 0 0) (hf : fX10_placeOf_60 f s0 = some r) : pz_W G C 5 60 [] [.int s0] f 0 0 (pz_Q G C (some (.int r)) f 0 0) := by
  unfold fX10_placeOf_60 at hf
  exact pz_iret hC hK dX10_placeOf_60 hf
def fX10_placeOf_55 (f : pz_H) : Option Int32 :=
  fX10_placeOf_60 f ((1 : Int32))
theorem tX10_placeOf_55 {G : pz_G} {C : pz_C} {f : pz_H} {r : Int32} (hC : pz_OK G C cX10_placeOf 5 RX10) (hK : pz_K C (some .int) 3 63 0 0) (hf : fX10_placeOf_55 f = some r) : pz_W G C 5 55 [] [] f 0 0 (pz_Q G C (some (.int r)) f 0 0) := by
  unfold fX10_placeOf_55 at hf
  refine pz_iconst (v := (1 : Int32)) hC dX10_placeOf_55 (by decide) ?_
  refine pz_goto hC dX10_placeOf_56 ?_
  exact tX10_placeOf_60 hC hK hf
def fX10_placeOf_94 (f : pz_H) (s0 : Int32) : Option Int32 :=
  some s0
theorem tX10_placeOf_94 {G : pz_G} {C : pz_C} {f : pz_H} {s0 : Int32} {r : Int32} (hC : pz_OK G C cX10_placeOf 5 RX10) (hK : pz_K C (some .int) 3 63 0 0) (hf : fX10_placeOf_94 f s0 = some r) : pz_W G C 5 94 [] [.int s0] f 0 0 (pz_Q G C (some (.int r)) f 0 0) := by
  unfold fX10_placeOf_94 at hf
  exact pz_iret hC hK dX10_placeOf_94 hf
def fX10_placeOf_89 (f : pz_H) : Option Int32 :=
  fX10_placeOf_94 f ((2 : Int32))
theorem tX10_placeOf_89 {G : pz_G} {C : pz_C} {f : pz_H} {r : Int32} (hC : pz_OK G C cX10_placeOf 5 RX10) (hK : pz_K C (some .int) 3 63 0 0) (hf : fX10_placeOf_89 f = some r) : pz_W G C 5 89 [] [] f 0 0 (pz_Q G C (some (.int r)) f 0 0) := by
  unfold fX10_placeOf_89 at hf
  refine pz_iconst (v := (2 : Int32)) hC dX10_placeOf_89 (by decide) ?_
  refine pz_goto hC dX10_placeOf_90 ?_
  exact tX10_placeOf_94 hC hK hf
def fX10_placeOf_93 (f : pz_H) : Option Int32 :=
  fX10_placeOf_94 f (((-1) : Int32))
theorem tX10_placeOf_93 {G : pz_G} {C : pz_C} {f : pz_H} {r : Int32} (hC : pz_OK G C cX10_placeOf 5 RX10) (hK : pz_K C (some .int) 3 63 0 0) (hf : fX10_placeOf_93 f = some r) : pz_W G C 5 93 [] [] f 0 0 (pz_Q G C (some (.int r)) f 0 0) := by
  unfold fX10_placeOf_93 at hf
  refine pz_iconst (v := ((-1) : Int32)) hC dX10_placeOf_93 (by decide) ?_
  exact tX10_placeOf_94 hC hK hf
def fX10_placeOf_112 (f : pz_H) : Option Int32 :=
  some (((-1) : Int32))
theorem tX10_placeOf_112 {G : pz_G} {C : pz_C} {f : pz_H} {r : Int32} (hC : pz_OK G C cX10_placeOf 5 RX10) (hK : pz_K C (some .int) 3 63 0 0) (hf : fX10_placeOf_112 f = some r) : pz_W G C 5 112 [] [] f 0 0 (pz_Q G C (some (.int r)) f 0 0) := by
  unfold fX10_placeOf_112 at hf
  refine pz_iconst (v := ((-1) : Int32)) hC dX10_placeOf_112 (by decide) ?_
  exact pz_iret hC hK dX10_placeOf_113 hf
def fX10_placeOf_216 (f : pz_H) (s0 : Int32) : Option Int32 :=
  some s0
theorem tX10_placeOf_216 {G : pz_G} {C : pz_C} {f : pz_H} {s0 : Int32} {r : Int32} (hC : pz_OK G C cX10_placeOf 5 RX10) (hK : pz_K C (some .int) 3 63 0 0) (hf : fX10_placeOf_216 f s0 = some r) : pz_W G C 5 216 [] [.int s0] f 0 0 (pz_Q G C (some (.int r)) f 0 0) := by
  unfold fX10_placeOf_216 at hf
  exact pz_iret hC hK dX10_placeOf_216 hf
def fX10_placeOf_194 (f : pz_H) (l1 : Int32) (l2 : Int32) (s0 : Int32) : Option Int32 :=
  if s0 = 0 then fX10_placeOf_216 f (((-1) : Int32)) else
  fX10_placeOf_216 f (((((35 : Int32) + ((8 : Int32) * l2)) + (2 : Int32)) + l1))
theorem tX10_placeOf_194 {G : pz_G} {C : pz_C} {f : pz_H} {l1 : Int32} {l2 : Int32} {s0 : Int32} {r : Int32} (hC : pz_OK G C cX10_placeOf 5 RX10) (hK : pz_K C (some .int) 3 63 0 0) (hf : fX10_placeOf_194 f l1 l2 s0 = some r) : pz_W G C 5 194 [(1, .int l1), (2, .int l2)] [.int s0] f 0 0 (pz_Q G C (some (.int r)) f 0 0) := by
  unfold fX10_placeOf_194 at hf
  refine pz_istore hC dX10_placeOf_194 (by decide) rfl ?_
  refine pz_iload hC dX10_placeOf_196 0 rfl ?_
  refine pz_if_eq hC dX10_placeOf_198 hf (fun _ hf => ?_) (fun _ hf => ?_)
  · refine pz_iconst (v := ((-1) : Int32)) hC dX10_placeOf_215 (by decide) ?_
    refine pz_sub [] rfl ?_
    exact tX10_placeOf_216 hC hK hf
  · refine pz_bipush (v := (35 : Int32)) hC dX10_placeOf_201 (by decide) ?_
    refine pz_bipush (v := (8 : Int32)) hC dX10_placeOf_203 (by decide) ?_
    refine pz_iload_n hC dX10_placeOf_205 2 rfl ?_
    refine pz_imul hC dX10_placeOf_206 ?_
    refine pz_iadd hC dX10_placeOf_207 ?_
    refine pz_iconst (v := (2 : Int32)) hC dX10_placeOf_208 (by decide) ?_
    refine pz_iadd hC dX10_placeOf_209 ?_
    refine pz_iload_n hC dX10_placeOf_210 1 rfl ?_
    refine pz_iadd hC dX10_placeOf_211 ?_
    refine pz_goto hC dX10_placeOf_212 ?_
    refine pz_sub [] rfl ?_
    exact tX10_placeOf_216 hC hK hf
def fX10_placeOf_153 (f : pz_H) (l1 : Int32) (l2 : Int32) : Option Int32 :=
  fX10_placeOf_194 f l1 l2 ((1 : Int32))
theorem tX10_placeOf_153 {G : pz_G} {C : pz_C} {f : pz_H} {l1 : Int32} {l2 : Int32} {r : Int32} (hC : pz_OK G C cX10_placeOf 5 RX10) (hK : pz_K C (some .int) 3 63 0 0) (hf : fX10_placeOf_153 f l1 l2 = some r) : pz_W G C 5 153 [(1, .int l1), (2, .int l2)] [] f 0 0 (pz_Q G C (some (.int r)) f 0 0) := by
  unfold fX10_placeOf_153 at hf
  refine pz_iconst (v := (1 : Int32)) hC dX10_placeOf_153 (by decide) ?_
  refine pz_goto hC dX10_placeOf_154 ?_
  exact tX10_placeOf_194 hC hK hf
def fX10_placeOf_157 (f : pz_H) (l1 : Int32) (l2 : Int32) : Option Int32 :=
  fX10_placeOf_194 f l1 l2 ((0 : Int32))
theorem tX10_placeOf_157 {G : pz_G} {C : pz_C} {f : pz_H} {l1 : Int32} {l2 : Int32} {r : Int32} (hC : pz_OK G C cX10_placeOf 5 RX10) (hK : pz_K C (some .int) 3 63 0 0) (hf : fX10_placeOf_157 f l1 l2 = some r) : pz_W G C 5 157 [(1, .int l1), (2, .int l2)] [] f 0 0 (pz_Q G C (some (.int r)) f 0 0) := by
  unfold fX10_placeOf_157 at hf
  refine pz_iconst (v := (0 : Int32)) hC dX10_placeOf_157 (by decide) ?_
  refine pz_goto hC dX10_placeOf_158 ?_
  exact tX10_placeOf_194 hC hK hf
def fX10_placeOf_193 (f : pz_H) (l1 : Int32) (l2 : Int32) : Option Int32 :=
  fX10_placeOf_194 f l1 l2 ((0 : Int32))
theorem tX10_placeOf_193 {G : pz_G} {C : pz_C} {f : pz_H} {l1 : Int32} {l2 : Int32} {r : Int32} (hC : pz_OK G C cX10_placeOf 5 RX10) (hK : pz_K C (some .int) 3 63 0 0) (hf : fX10_placeOf_193 f l1 l2 = some r) : pz_W G C 5 193 [(1, .int l1), (2, .int l2)] [] f 0 0 (pz_Q G C (some (.int r)) f 0 0) := by
  unfold fX10_placeOf_193 at hf
  refine pz_iconst (v := (0 : Int32)) hC dX10_placeOf_193 (by decide) ?_
  exact tX10_placeOf_194 hC hK hf
def fX10_placeOf_183 (f : pz_H) (l1 : Int32) (l2 : Int32) (s0 : Int32) (s1 : Int32) (s2 : Int32) : Option Int32 :=
  (fnX10_in s2 s1 s0).bind fun x1 =>
  if x1 = 0 then fX10_placeOf_193 f l1 l2 else
  fX10_placeOf_194 f l1 l2 ((1 : Int32))
theorem tX10_placeOf_183 {G : pz_G} {C : pz_C} {f : pz_H} {l1 : Int32} {l2 : Int32} {s0 : Int32} {s1 : Int32} {s2 : Int32} {r : Int32} (hC : pz_OK G C cX10_placeOf 5 RX10) (hK : pz_K C (some .int) 3 63 0 0) (hf : fX10_placeOf_183 f l1 l2 s0 s1 s2 = some r) : pz_W G C 5 183 [(1, .int l1), (2, .int l2)] [.int s0, .int s1, .int s2] f 0 0 (pz_Q G C (some (.int r)) f 0 0) := by
  unfold fX10_placeOf_183 at hf
  refine pz_Si (As := [.int s2, .int s1, .int s0]) hC hK dX10_placeOf_183 py_X10_in ps_X10_in lk_X10_52 hf (fun _ h => mX10_in h) rfl rfl (Nat.le_of_ble_eq_true rfl) ⟨by decide, by decide⟩ ⟨by decide, by decide⟩ (fun x1 hf => ?_)
  refine pz_if_eq hC dX10_placeOf_186 hf (fun _ hf => ?_) (fun _ hf => ?_)
  · exact tX10_placeOf_193 hC hK hf
  · refine pz_iconst (v := (1 : Int32)) hC dX10_placeOf_189 (by decide) ?_
    refine pz_goto hC dX10_placeOf_190 ?_
    exact tX10_placeOf_194 hC hK hf
def fnX10_placeOf (f : pz_H) (a0 : Nat) (p1 : Int32) (p2 : Int32) (p3 : Int32) : Option Int32 :=
  (pz_is f a0 9).bind fun _ =>
  (fnX10_in p1 ((10 : Int32)) ((14 : Int32))).bind fun x1 =>
  if x1 = 0 then if p1 = 0 then if p3 = ((-1) : Int32) then fX10_placeOf_55 f else
  (fnX10_canRetire f a0 p3).bind fun x11 =>
  if x11 = 0 then fX10_placeOf_60 f (((-1) : Int32)) else
  fX10_placeOf_55 f else
  if p1 = (6 : Int32) then if p3 = ((-1) : Int32) then fX10_placeOf_89 f else
  (fnX10_isMonth p3).bind fun x8 =>
  if x8 = 0 then fX10_placeOf_93 f else
  (pz_gR f a0 9 1).bind fun v9 =>
  (pz_aI f v9 0 ((0 : Int32))).bind fun v10 =>
  if p3 ≤ v10 then fX10_placeOf_93 f else
  fX10_placeOf_89 f else
  (fnX10_in p1 ((1 : Int32)) ((5 : Int32))).bind fun x2 =>
  if x2 = 0 then fX10_placeOf_112 f else
  (fnX10_isSpouse f a0 p2).bind fun x3 =>
  if x3 = 0 then fX10_placeOf_112 f else
  if p1 = (4 : Int32) then (fnX10_isMonth p3).bind fun x7 =>
  fX10_placeOf_194 f p1 p2 x7 else
  if p1 = (5 : Int32) then if p3 = ((-1) : Int32) then fX10_placeOf_153 f p1 p2 else
  (fnX10_isMonth p3).bind fun x5 =>
  if x5 = 0 then fX10_placeOf_157 f p1 p2 else
  (fnX10_its f a0 p2 ((0 : Int32))).bind fun x6 =>
  if p3 ≤ x6 then fX10_placeOf_157 f p1 p2 else
  fX10_placeOf_153 f p1 p2 else
  (fnX10_isParted f a0 p2).bind fun x4 =>
  if x4 = 0 then fX10_placeOf_193 f p1 p2 else
  if p1 = (2 : Int32) then fX10_placeOf_183 f p1 p2 ((1 : Int32)) ((0 : Int32)) p3 else
  fX10_placeOf_183 f p1 p2 ((1000 : Int32)) ((0 : Int32)) p3 else
  (fnX10_mostOf ((p1 - (10 : Int32)))).bind fun x12 =>
  (fnX10_in p3 ((0 : Int32)) x12).bind fun x13 =>
  if x13 = 0 then fX10_placeOf_37 f (((-1) : Int32)) else
  fX10_placeOf_37 f ((((6 : Int32) + p1) - (10 : Int32)))
theorem mX10_placeOf {l : Launch} {G : pz_G} {f : pz_H} {a0 : Nat} {p1 : Int32} {p2 : Int32} {p3 : Int32} {r : Int32} (hf : fnX10_placeOf f a0 p1 p2 p3 = some r) : pz_Met l G yX10_placeOf cX10_placeOf 5 (some .int) 3 63 0 0 [.ref a0, .int p1, .int p2, .int p3] f (some (.int r)) f ∧ pz_is f a0 9 = some () := by
  unfold fnX10_placeOf at hf
  obtain ⟨_, h0, hf⟩ := pz_bd hf
  refine ⟨pz_enter (by decide +kernel) (Nat.le_of_ble_eq_true rfl) (fun C hl hC hK hnm => ?_), h0⟩
  subst hl
  refine pz_sub (lv' := [(0, .ref a0), (1, .int p1), (2, .int p2), (3, .int p3)]) [0, 1, 2, 3] rfl ?_
  refine pz_iload_n hC dX10_placeOf_0 1 rfl ?_
  refine pz_bipush (v := (10 : Int32)) hC dX10_placeOf_1 (by decide) ?_
  refine pz_bipush (v := (14 : Int32)) hC dX10_placeOf_3 (by decide) ?_
  refine pz_Si (As := [.int p1, .int (10 : Int32), .int (14 : Int32)]) hC hK dX10_placeOf_5 py_X10_in ps_X10_in lk_X10_52 hf (fun _ h => mX10_in h) rfl rfl (Nat.le_of_ble_eq_true rfl) ⟨by decide, by decide⟩ ⟨by decide, by decide⟩ (fun x1 hf => ?_)
  refine pz_if_eq hC dX10_placeOf_8 hf (fun _ hf => ?_) (fun _ hf => ?_)
  · refine pz_iload_n hC dX10_placeOf_38 1 rfl ?_
    refine pz_if_ne hC dX10_placeOf_39 hf (fun _ hf => ?_) (fun _ hf => ?_)
    · refine pz_iload_n hC dX10_placeOf_61 1 rfl ?_
      refine pz_bipush (v := (6 : Int32)) hC dX10_placeOf_62 (by decide) ?_
      refine pz_icmp_ne hC dX10_placeOf_64 hf (fun _ hf => ?_) (fun _ hf => ?_)
      · refine pz_iload_n hC dX10_placeOf_95 1 rfl ?_
        refine pz_iconst (v := (1 : Int32)) hC dX10_placeOf_96 (by decide) ?_
        refine pz_iconst (v := (5 : Int32)) hC dX10_placeOf_97 (by decide) ?_
        refine pz_Si (As := [.int p1, .int (1 : Int32), .int (5 : Int32)]) hC hK dX10_placeOf_98 py_X10_in ps_X10_in lk_X10_52 hf (fun _ h => mX10_in h) rfl rfl (Nat.le_of_ble_eq_true rfl) ⟨by decide, by decide⟩ ⟨by decide, by decide⟩ (fun x2 hf => ?_)
        refine pz_if_eq hC dX10_placeOf_101 hf (fun _ hf => ?_) (fun _ hf => ?_)
        · refine pz_sub [] rfl ?_
          exact tX10_placeOf_112 hC hK hf
        · refine pz_aload_n hC dX10_placeOf_104 0 rfl ?_
          refine pz_iload_n hC dX10_placeOf_105 2 rfl ?_
          refine pz_Vi (As := [.int p2]) hC hK dX10_placeOf_106 py_X10_isSpouse pv_X10_isSpouse lk_X10_149 hf (fun _ h => mX10_isSpouse h) rfl rfl (Nat.le_of_ble_eq_true rfl) ⟨by decide, by decide⟩ ⟨by decide, by decide⟩ (fun x3 hf => ?_)
          refine pz_if_ne hC dX10_placeOf_109 hf (fun _ hf => ?_) (fun _ hf => ?_)
          · refine pz_iload_n hC dX10_placeOf_114 1 rfl ?_
            refine pz_iconst (v := (4 : Int32)) hC dX10_placeOf_115 (by decide) ?_
            refine pz_icmp_ne hC dX10_placeOf_116 hf (fun _ hf => ?_) (fun _ hf => ?_)
            · refine pz_iload_n hC dX10_placeOf_126 1 rfl ?_
              refine pz_iconst (v := (5 : Int32)) hC dX10_placeOf_127 (by decide) ?_
              refine pz_icmp_ne hC dX10_placeOf_128 hf (fun _ hf => ?_) (fun _ hf => ?_)
              · refine pz_aload_n hC dX10_placeOf_161 0 rfl ?_
                refine pz_iload_n hC dX10_placeOf_162 2 rfl ?_
                refine pz_Vi (As := [.int p2]) hC hK dX10_placeOf_163 py_X10_isParted pv_X10_isParted lk_X10_91 hf (fun _ h => mX10_isParted h) rfl rfl (Nat.le_of_ble_eq_true rfl) ⟨by decide, by decide⟩ ⟨by decide, by decide⟩ (fun x4 hf => ?_)
                refine pz_if_eq hC dX10_placeOf_166 hf (fun _ hf => ?_) (fun _ hf => ?_)
                · refine pz_sub [1, 2] rfl ?_
                  exact tX10_placeOf_193 hC hK hf
                · refine pz_iload_n hC dX10_placeOf_169 3 rfl ?_
                  refine pz_iconst (v := (0 : Int32)) hC dX10_placeOf_170 (by decide) ?_
                  refine pz_iload_n hC dX10_placeOf_171 1 rfl ?_
                  refine pz_iconst (v := (2 : Int32)) hC dX10_placeOf_172 (by decide) ?_
                  refine pz_icmp_ne hC dX10_placeOf_173 hf (fun _ hf => ?_) (fun _ hf => ?_)
                  · refine pz_sipush (v := (1000 : Int32)) hC dX10_placeOf_180 (by decide) ?_
                    refine pz_sub [1, 2] rfl ?_
                    exact tX10_placeOf_183 hC hK hf
                  · refine pz_iconst (v := (1 : Int32)) hC dX10_placeOf_176 (by decide) ?_
                    refine pz_goto hC dX10_placeOf_177 ?_
                    refine pz_sub [1, 2] rfl ?_
                    exact tX10_placeOf_183 hC hK hf
              · refine pz_iload_n hC dX10_placeOf_131 3 rfl ?_
                refine pz_iconst (v := ((-1) : Int32)) hC dX10_placeOf_132 (by decide) ?_
                refine pz_icmp_eq hC dX10_placeOf_133 hf (fun _ hf => ?_) (fun _ hf => ?_)
                · refine pz_sub [1, 2] rfl ?_
                  exact tX10_placeOf_153 hC hK hf
                · refine pz_iload_n hC dX10_placeOf_136 3 rfl ?_
                  refine pz_Si (As := [.int p3]) hC hK dX10_placeOf_137 py_X10_isMonth ps_X10_isMonth lk_X10_155 hf (fun _ h => mX10_isMonth h) rfl rfl (Nat.le_of_ble_eq_true rfl) ⟨by decide, by decide⟩ ⟨by decide, by decide⟩ (fun x5 hf => ?_)
                  refine pz_if_eq hC dX10_placeOf_140 hf (fun _ hf => ?_) (fun _ hf => ?_)
                  · refine pz_sub [1, 2] rfl ?_
                    exact tX10_placeOf_157 hC hK hf
                  · refine pz_iload_n hC dX10_placeOf_143 3 rfl ?_
                    refine pz_aload_n hC dX10_placeOf_144 0 rfl ?_
                    refine pz_iload_n hC dX10_placeOf_145 2 rfl ?_
                    refine pz_iconst (v := (0 : Int32)) hC dX10_placeOf_146 (by decide) ?_
                    refine pz_Vi (As := [.int p2, .int (0 : Int32)]) hC hK dX10_placeOf_147 py_X10_its pv_X10_its lk_X10_56 hf (fun _ h => mX10_its h) rfl rfl (Nat.le_of_ble_eq_true rfl) ⟨by decide, by decide⟩ ⟨by decide, by decide⟩ (fun x6 hf => ?_)
                    refine pz_icmp_le hC dX10_placeOf_150 hf (fun _ hf => ?_) (fun _ hf => ?_)
                    · refine pz_sub [1, 2] rfl ?_
                      exact tX10_placeOf_157 hC hK hf
                    · refine pz_sub [1, 2] rfl ?_
                      exact tX10_placeOf_153 hC hK hf
            · refine pz_iload_n hC dX10_placeOf_119 3 rfl ?_
              refine pz_Si (As := [.int p3]) hC hK dX10_placeOf_120 py_X10_isMonth ps_X10_isMonth lk_X10_155 hf (fun _ h => mX10_isMonth h) rfl rfl (Nat.le_of_ble_eq_true rfl) ⟨by decide, by decide⟩ ⟨by decide, by decide⟩ (fun x7 hf => ?_)
              refine pz_goto hC dX10_placeOf_123 ?_
              refine pz_sub [1, 2] rfl ?_
              exact tX10_placeOf_194 hC hK hf
          · refine pz_sub [] rfl ?_
            exact tX10_placeOf_112 hC hK hf
      · refine pz_iload_n hC dX10_placeOf_67 3 rfl ?_
        refine pz_iconst (v := ((-1) : Int32)) hC dX10_placeOf_68 (by decide) ?_
        refine pz_icmp_eq hC dX10_placeOf_69 hf (fun _ hf => ?_) (fun _ hf => ?_)
        · refine pz_sub [] rfl ?_
          exact tX10_placeOf_89 hC hK hf
        · refine pz_iload_n hC dX10_placeOf_72 3 rfl ?_
          refine pz_Si (As := [.int p3]) hC hK dX10_placeOf_73 py_X10_isMonth ps_X10_isMonth lk_X10_155 hf (fun _ h => mX10_isMonth h) rfl rfl (Nat.le_of_ble_eq_true rfl) ⟨by decide, by decide⟩ ⟨by decide, by decide⟩ (fun x8 hf => ?_)
          refine pz_if_eq hC dX10_placeOf_76 hf (fun _ hf => ?_) (fun _ hf => ?_)
          · refine pz_sub [] rfl ?_
            exact tX10_placeOf_93 hC hK hf
          · refine pz_iload_n hC dX10_placeOf_79 3 rfl ?_
            refine pz_aload_n hC dX10_placeOf_80 0 rfl ?_
            refine pz_getR hC dX10_placeOf_81 fa_X10_7 hf (fun v9 hf => ?_)
            refine pz_iconst (v := (0 : Int32)) hC dX10_placeOf_84 (by decide) ?_
            refine pz_iald hC dX10_placeOf_85 hf (fun v10 hf => ?_)
            refine pz_icmp_le hC dX10_placeOf_86 hf (fun _ hf => ?_) (fun _ hf => ?_)
            · refine pz_sub [] rfl ?_
              exact tX10_placeOf_93 hC hK hf
            · refine pz_sub [] rfl ?_
              exact tX10_placeOf_89 hC hK hf
    · refine pz_iload_n hC dX10_placeOf_42 3 rfl ?_
      refine pz_iconst (v := ((-1) : Int32)) hC dX10_placeOf_43 (by decide) ?_
      refine pz_icmp_eq hC dX10_placeOf_44 hf (fun _ hf => ?_) (fun _ hf => ?_)
      · refine pz_sub [] rfl ?_
        exact tX10_placeOf_55 hC hK hf
      · refine pz_aload_n hC dX10_placeOf_47 0 rfl ?_
        refine pz_iload_n hC dX10_placeOf_48 3 rfl ?_
        refine pz_Vi (As := [.int p3]) hC hK dX10_placeOf_49 py_X10_canRetire pv_X10_canRetire lk_X10_208 hf (fun _ h => mX10_canRetire h) rfl rfl (Nat.le_of_ble_eq_true rfl) ⟨by decide, by decide⟩ ⟨by decide, by decide⟩ (fun x11 hf => ?_)
        refine pz_if_eq hC dX10_placeOf_52 hf (fun _ hf => ?_) (fun _ hf => ?_)
        · refine pz_iconst (v := ((-1) : Int32)) hC dX10_placeOf_59 (by decide) ?_
          refine pz_sub [] rfl ?_
          exact tX10_placeOf_60 hC hK hf
        · refine pz_sub [] rfl ?_
          exact tX10_placeOf_55 hC hK hf
  · refine pz_iload_n hC dX10_placeOf_11 3 rfl ?_
    refine pz_iconst (v := (0 : Int32)) hC dX10_placeOf_12 (by decide) ?_
    refine pz_iload_n hC dX10_placeOf_13 1 rfl ?_
    refine pz_bipush (v := (10 : Int32)) hC dX10_placeOf_14 (by decide) ?_
    refine pz_isub hC dX10_placeOf_16 ?_
    refine pz_Si (As := [.int (p1 - (10 : Int32))]) hC hK dX10_placeOf_17 py_X10_mostOf ps_X10_mostOf lk_X10_205 hf (fun _ h => mX10_mostOf h) rfl rfl (Nat.le_of_ble_eq_true rfl) ⟨by decide, by decide⟩ ⟨by decide, by decide⟩ (fun x12 hf => ?_)
    refine pz_Si (As := [.int p3, .int (0 : Int32), .int x12]) hC hK dX10_placeOf_20 py_X10_in ps_X10_in lk_X10_52 hf (fun _ h => mX10_in h) rfl rfl (Nat.le_of_ble_eq_true rfl) ⟨by decide, by decide⟩ ⟨by decide, by decide⟩ (fun x13 hf => ?_)
    refine pz_if_eq hC dX10_placeOf_23 hf (fun _ hf => ?_) (fun _ hf => ?_)
    · refine pz_iconst (v := ((-1) : Int32)) hC dX10_placeOf_36 (by decide) ?_
      refine pz_sub [] rfl ?_
      exact tX10_placeOf_37 hC hK hf
    · refine pz_bipush (v := (6 : Int32)) hC dX10_placeOf_26 (by decide) ?_
      refine pz_iload_n hC dX10_placeOf_28 1 rfl ?_
      refine pz_iadd hC dX10_placeOf_29 ?_
      refine pz_bipush (v := (10 : Int32)) hC dX10_placeOf_30 (by decide) ?_
      refine pz_isub hC dX10_placeOf_32 ?_
      refine pz_goto hC dX10_placeOf_33 ?_
      refine pz_sub [] rfl ?_
      exact tX10_placeOf_37 hC hK hf
def fX10_set_31 (f : pz_H) : Option (Int32 × pz_H) :=
  (pz_b ((0 : Int32))).bind fun x => some (x, f)
theorem tX10_set_31 {G : pz_G} {C : pz_C} {f : pz_H} {r : (Int32 × pz_H)} (hC : pz_OK G C cX10_set 5 RX10) (hK : pz_K C (some .boolean) 4 87 0 0) (hf : fX10_set_31 f = some r) : pz_W G C 5 31 [] [] f 0 0 (pz_Q G C (some (.int r.1)) r.2 0 0) := by
  unfold fX10_set_31 at hf
  refine pz_iconst (v := (0 : Int32)) hC dX10_set_31 (by decide) ?_
  exact pz_zretw hC hK dX10_set_32 hf
def fnX10_set (f : pz_H) (a0 : Nat) (p1 : Int32) (p2 : Int32) (p3 : Int32) : Option (Int32 × pz_H) :=
  (pz_is f a0 9).bind fun _ =>
  (pz_sV f a0 9 0 (.int (0 : Int32))).bind fun f1 =>
  (fnX10_placeOf f1 a0 p1 p2 p3).bind fun x2 =>
  if x2 = ((-1) : Int32) then fX10_set_31 f1 else
  (pz_gR f1 a0 9 1).bind fun v3 =>
  (pz_aI f1 v3 0 x2).bind fun v4 =>
  if v4 = p3 then fX10_set_31 f1 else
  (pz_gR f1 a0 9 1).bind fun v5 =>
  (fnX10_keeps f1 a0 v5).bind fun x6 =>
  (pz_gR x6 a0 9 1).bind fun v7 =>
  (pz_tI x6 v7 0 x2 p3).bind fun f8 =>
  (pz_sV f8 a0 9 6 (.int (0 : Int32))).bind fun f9 =>
  (pz_b ((1 : Int32))).bind fun x => some (x, f9)
theorem mX10_set {l : Launch} {G : pz_G} {f : pz_H} {a0 : Nat} {p1 : Int32} {p2 : Int32} {p3 : Int32} {r : (Int32 × pz_H)} (hf : fnX10_set f a0 p1 p2 p3 = some r) : pz_Met l G yX10_set cX10_set 5 (some .boolean) 4 87 0 0 [.ref a0, .int p1, .int p2, .int p3] f (some (.int r.1)) r.2 ∧ pz_is f a0 9 = some () := by
  unfold fnX10_set at hf
  obtain ⟨_, h0, hf⟩ := pz_bd hf
  refine ⟨pz_enter (by decide +kernel) (Nat.le_of_ble_eq_true rfl) (fun C hl hC hK hnm => ?_), h0⟩
  subst hl
  refine pz_sub (lv' := [(0, .ref a0), (1, .int p1), (2, .int p2), (3, .int p3)]) [0, 1, 2, 3] rfl ?_
  refine pz_aload_n hC dX10_set_0 0 rfl ?_
  refine pz_iconst (v := (0 : Int32)) hC dX10_set_1 (by decide) ?_
  refine pz_putV hC dX10_set_2 fp_X10_48 rfl rfl hf (fun f1 hf => ?_)
  refine pz_aload_n hC dX10_set_5 0 rfl ?_
  refine pz_iload_n hC dX10_set_6 1 rfl ?_
  refine pz_iload_n hC dX10_set_7 2 rfl ?_
  refine pz_iload_n hC dX10_set_8 3 rfl ?_
  refine pz_Vi (As := [.int p1, .int p2, .int p3]) hC hK dX10_set_9 py_X10_placeOf pv_X10_placeOf lk_X10_211 hf (fun _ h => mX10_placeOf h) rfl rfl (Nat.le_of_ble_eq_true rfl) ⟨by decide, by decide⟩ ⟨by decide, by decide⟩ (fun x2 hf => ?_)
  refine pz_istore hC dX10_set_12 (by decide) rfl ?_
  refine pz_iload hC dX10_set_14 0 rfl ?_
  refine pz_iconst (v := ((-1) : Int32)) hC dX10_set_16 (by decide) ?_
  refine pz_icmp_eq hC dX10_set_17 hf (fun _ hf => ?_) (fun _ hf => ?_)
  · refine pz_sub [] rfl ?_
    exact tX10_set_31 hC hK hf
  · refine pz_aload_n hC dX10_set_20 1 rfl ?_
    refine pz_getR hC dX10_set_21 fa_X10_7 hf (fun v3 hf => ?_)
    refine pz_iload hC dX10_set_24 0 rfl ?_
    refine pz_iald hC dX10_set_26 hf (fun v4 hf => ?_)
    refine pz_iload_n hC dX10_set_27 4 rfl ?_
    refine pz_icmp_ne hC dX10_set_28 hf (fun _ hf => ?_) (fun _ hf => ?_)
    · refine pz_aload_n hC dX10_set_33 1 rfl ?_
      refine pz_aload_n hC dX10_set_34 1 rfl ?_
      refine pz_getR hC dX10_set_35 fa_X10_7 hf (fun v5 hf => ?_)
      refine pz_Vv (As := [.ref v5]) hC hK dX10_set_38 py_X10_keeps pv_X10_keeps lk_X10_215 hf (fun _ h => mX10_keeps h) rfl rfl (Nat.le_of_ble_eq_true rfl) ⟨by decide, by decide⟩ ⟨by decide, by decide⟩ (fun x6 hf => ?_)
      refine pz_aload_n hC dX10_set_41 1 rfl ?_
      refine pz_getR hC dX10_set_42 fa_X10_7 hf (fun v7 hf => ?_)
      refine pz_iload hC dX10_set_45 0 rfl ?_
      refine pz_iload_n hC dX10_set_47 4 rfl ?_
      refine pz_iast hC dX10_set_48 hf (fun f8 hf => ?_)
      refine pz_aload_n hC dX10_set_49 1 rfl ?_
      refine pz_iconst (v := (0 : Int32)) hC dX10_set_50 (by decide) ?_
      refine pz_putV hC dX10_set_51 fp_X10_80 (by decide) (by decide) hf (fun f9 hf => ?_)
      refine pz_iconst (v := (1 : Int32)) hC dX10_set_54 (by decide) ?_
      exact pz_zretw hC hK dX10_set_55 hf
    · refine pz_sub [] rfl ?_
      exact tX10_set_31 hC hK hf
def fX10_undo_26b (k26 : pz_H → Nat → Int32 → Option (Int32 × pz_H)) (f : pz_H) (l0 : Nat) (l1 : Int32) : Option (Int32 × pz_H) :=
  if (87 : Int32) ≤ l1 then (pz_sV f l0 9 6 (.int (0 : Int32))).bind fun f1 =>
  (pz_gI f1 l0 9 4).bind fun v2 =>
  some (v2, f1) else
  (pz_gR f l0 9 1).bind fun v3 =>
  (pz_gR f l0 9 2).bind fun v4 =>
  (pz_gI f l0 9 4).bind fun v5 =>
  (pz_aI f v4 0 ((((87 : Int32) * v5) + l1))).bind fun v6 =>
  (pz_tI f v3 0 l1 v6).bind fun f7 =>
  k26 f7 l0 ((l1 + 1))
theorem tX10_undo_26b {G : pz_G} {C : pz_C} {f : pz_H} {k26 : pz_H → Nat → Int32 → Option (Int32 × pz_H)} {l0 : Nat} {l1 : Int32} {r : (Int32 × pz_H)} (hC : pz_OK G C cX10_undo 2 RX10) (hK : pz_K C (some .int) 0 0 0 0) (hk26 : ∀ (g : pz_H) (a0 : Nat) (a1 : Int32), k26 g a0 a1 = some r → pz_W G C 2 26 [(0, .ref a0), (1, .int a1)] [] g 0 0 (pz_Q G C (some (.int r.1)) r.2 0 0)) (hf : fX10_undo_26b k26 f l0 l1 = some r) : pz_W G C 2 26 [(0, .ref l0), (1, .int l1)] [] f 0 0 (pz_Q G C (some (.int r.1)) r.2 0 0) := by
  unfold fX10_undo_26b at hf
  refine pz_iload_n hC dX10_undo_26 1 rfl ?_
  refine pz_bipush (v := (87 : Int32)) hC dX10_undo_27 (by decide) ?_
  refine pz_icmp_ge hC dX10_undo_29 hf (fun _ hf => ?_) (fun _ hf => ?_)
  · refine pz_aload_n hC dX10_undo_58 0 rfl ?_
    refine pz_iconst (v := (0 : Int32)) hC dX10_undo_59 (by decide) ?_
    refine pz_putV hC dX10_undo_60 fp_X10_80 (by decide) (by decide) hf (fun f1 hf => ?_)
    refine pz_aload_n hC dX10_undo_63 0 rfl ?_
    refine pz_getI hC dX10_undo_64 fa_X10_172 hf (fun v2 hf => ?_)
    exact pz_iretw hC hK dX10_undo_67 hf
  · refine pz_aload_n hC dX10_undo_32 0 rfl ?_
    refine pz_getR hC dX10_undo_33 fa_X10_7 hf (fun v3 hf => ?_)
    refine pz_iload_n hC dX10_undo_36 1 rfl ?_
    refine pz_aload_n hC dX10_undo_37 0 rfl ?_
    refine pz_getR hC dX10_undo_38 fa_X10_13 hf (fun v4 hf => ?_)
    refine pz_bipush (v := (87 : Int32)) hC dX10_undo_41 (by decide) ?_
    refine pz_aload_n hC dX10_undo_43 0 rfl ?_
    refine pz_getI hC dX10_undo_44 fa_X10_172 hf (fun v5 hf => ?_)
    refine pz_imul hC dX10_undo_47 ?_
    refine pz_iload_n hC dX10_undo_48 1 rfl ?_
    refine pz_iadd hC dX10_undo_49 ?_
    refine pz_iald hC dX10_undo_50 hf (fun v6 hf => ?_)
    refine pz_iast hC dX10_undo_51 hf (fun f7 hf => ?_)
    refine pz_iinc (v := (l1 + 1)) hC dX10_undo_52 1 rfl rfl (by decide) rfl ?_
    refine pz_goto hC dX10_undo_55 ?_
    refine pz_sub [1, 0] rfl ?_
    exact hk26 _ _ _ hf
def fX10_undo_26 : Nat → pz_H → Nat → Int32 → Option (Int32 × pz_H)
  | 0, _, _, _ => none
  | n + 1, f, l0, l1 => fX10_undo_26b (fX10_undo_26 n) f l0 l1
theorem tX10_undo_26 {G : pz_G} {C : pz_C} {r : (Int32 × pz_H)} (hC : pz_OK G C cX10_undo 2 RX10) (hK : pz_K C (some .int) 0 0 0 0) : ∀ (N : Nat) (f : pz_H) (l0 : Nat) (l1 : Int32), fX10_undo_26 N f l0 l1 = some r → pz_W G C 2 26 [(0, .ref l0), (1, .int l1)] [] f 0 0 (pz_Q G C (some (.int r.1)) r.2 0 0) := by
  intro N
  induction N with
  | zero => intro f l0 l1 hf; cases hf
  | succ N ih => intro f l0 l1 hf; exact tX10_undo_26b hC hK (fun f l0 l1 hf => ih f l0 l1 hf) hf
def fnX10_undo (f : pz_H) (a0 : Nat) : Option (Int32 × pz_H) :=
  (pz_is f a0 9).bind fun _ =>
  (pz_sV f a0 9 0 (.int (0 : Int32))).bind fun f1 =>
  (pz_gI f1 a0 9 4).bind fun v2 =>
  if v2 = 0 then some (((-1) : Int32), f1) else
  (pz_gI f1 a0 9 4).bind fun v3 =>
  (pz_sV f1 a0 9 4 (.int (v3 - (1 : Int32)))).bind fun f4 =>
  fX10_undo_26 pz_F f4 a0 ((0 : Int32))
theorem mX10_undo {l : Launch} {G : pz_G} {f : pz_H} {a0 : Nat} {r : (Int32 × pz_H)} (hf : fnX10_undo f a0 = some r) : pz_Met l G yX10_undo cX10_undo 2 (some .int) 0 0 0 0 [.ref a0] f (some (.int r.1)) r.2 ∧ pz_is f a0 9 = some () := by
  unfold fnX10_undo at hf
  obtain ⟨_, h0, hf⟩ := pz_bd hf
  refine ⟨pz_enter (by decide +kernel) (Nat.le_of_ble_eq_true rfl) (fun C hl hC hK hnm => ?_), h0⟩
  subst hl
  refine pz_sub (lv' := [(0, .ref a0)]) [0] rfl ?_
  refine pz_aload_n hC dX10_undo_0 0 rfl ?_
  refine pz_iconst (v := (0 : Int32)) hC dX10_undo_1 (by decide) ?_
  refine pz_putV hC dX10_undo_2 fp_X10_48 rfl rfl hf (fun f1 hf => ?_)
  refine pz_aload_n hC dX10_undo_5 0 rfl ?_
  refine pz_getI hC dX10_undo_6 fa_X10_172 hf (fun v2 hf => ?_)
  refine pz_if_ne hC dX10_undo_9 hf (fun _ hf => ?_) (fun _ hf => ?_)
  · refine pz_aload_n hC dX10_undo_14 0 rfl ?_
    refine pz_dup hC dX10_undo_15 rfl ?_
    refine pz_getI hC dX10_undo_16 fa_X10_172 hf (fun v3 hf => ?_)
    refine pz_iconst (v := (1 : Int32)) hC dX10_undo_19 (by decide) ?_
    refine pz_isub hC dX10_undo_20 ?_
    refine pz_putV hC dX10_undo_21 fp_X10_172 rfl rfl hf (fun f4 hf => ?_)
    refine pz_iconst (v := (0 : Int32)) hC dX10_undo_24 (by decide) ?_
    refine pz_istore_n hC dX10_undo_25 (by decide) rfl ?_
    refine pz_sub [1, 0] rfl ?_
    exact tX10_undo_26 hC hK _ _ _ _ hf
  · refine pz_iconst (v := ((-1) : Int32)) hC dX10_undo_12 (by decide) ?_
    exact pz_iretw hC hK dX10_undo_13 hf
def fX10_four_3b (k3 : pz_H → Nat → Int32 → Int32 → Option pz_H) (f : pz_H) (l0 : Nat) (l1 : Int32) (l2 : Int32) : Option pz_H :=
  if l2 < 0 then some f else
  (pz_gR f l0 9 13).bind fun v1 =>
  (pz_gI f l0 9 14).bind fun v2 =>
  (pz_tI f v1 0 v2 (((l1 >>> (l2 &&& 31)) &&& (255 : Int32)))).bind fun f3 =>
  (pz_gI f3 l0 9 14).bind fun v4 =>
  (pz_sV f3 l0 9 14 (.int (v4 + (1 : Int32)))).bind fun f5 =>
  k3 f5 l0 l1 ((l2 + (-8)))
theorem tX10_four_3b {G : pz_G} {C : pz_C} {f : pz_H} {k3 : pz_H → Nat → Int32 → Int32 → Option pz_H} {l0 : Nat} {l1 : Int32} {l2 : Int32} {r : pz_H} (hC : pz_OK G C cX10_four 3 RX10) (hK : pz_K C none 0 0 0 0) (hk3 : ∀ (g : pz_H) (a0 : Nat) (a1 : Int32) (a2 : Int32), k3 g a0 a1 a2 = some r → pz_W G C 3 3 [(0, .ref a0), (1, .int a1), (2, .int a2)] [] g 0 0 (pz_Q G C none r 0 0)) (hf : fX10_four_3b k3 f l0 l1 l2 = some r) : pz_W G C 3 3 [(0, .ref l0), (1, .int l1), (2, .int l2)] [] f 0 0 (pz_Q G C none r 0 0) := by
  unfold fX10_four_3b at hf
  refine pz_iload_n hC dX10_four_3 2 rfl ?_
  refine pz_if_lt hC dX10_four_4 hf (fun _ hf => ?_) (fun _ hf => ?_)
  · exact pz_vret hC hK dX10_four_39 hf
  · refine pz_aload_n hC dX10_four_7 0 rfl ?_
    refine pz_getR hC dX10_four_8 fa_X10_38 hf (fun v1 hf => ?_)
    refine pz_aload_n hC dX10_four_11 0 rfl ?_
    refine pz_getI hC dX10_four_12 fa_X10_169 hf (fun v2 hf => ?_)
    refine pz_iload_n hC dX10_four_15 1 rfl ?_
    refine pz_iload_n hC dX10_four_16 2 rfl ?_
    refine pz_ishr hC dX10_four_17 ?_
    refine pz_sipush (v := (255 : Int32)) hC dX10_four_18 (by decide) ?_
    refine pz_iand hC dX10_four_21 ?_
    refine pz_iast hC dX10_four_22 hf (fun f3 hf => ?_)
    refine pz_aload_n hC dX10_four_23 0 rfl ?_
    refine pz_dup hC dX10_four_24 rfl ?_
    refine pz_getI hC dX10_four_25 fa_X10_169 hf (fun v4 hf => ?_)
    refine pz_iconst (v := (1 : Int32)) hC dX10_four_28 (by decide) ?_
    refine pz_iadd hC dX10_four_29 ?_
    refine pz_putV hC dX10_four_30 fp_X10_169 rfl rfl hf (fun f5 hf => ?_)
    refine pz_iinc (v := (l2 + (-8))) hC dX10_four_33 2 rfl rfl (by decide) rfl ?_
    refine pz_goto hC dX10_four_36 ?_
    refine pz_sub [1, 2, 0] rfl ?_
    exact hk3 _ _ _ _ hf
def fX10_four_3 : Nat → pz_H → Nat → Int32 → Int32 → Option pz_H
  | 0, _, _, _, _ => none
  | n + 1, f, l0, l1, l2 => fX10_four_3b (fX10_four_3 n) f l0 l1 l2
theorem tX10_four_3 {G : pz_G} {C : pz_C} {r : pz_H} (hC : pz_OK G C cX10_four 3 RX10) (hK : pz_K C none 0 0 0 0) : ∀ (N : Nat) (f : pz_H) (l0 : Nat) (l1 : Int32) (l2 : Int32), fX10_four_3 N f l0 l1 l2 = some r → pz_W G C 3 3 [(0, .ref l0), (1, .int l1), (2, .int l2)] [] f 0 0 (pz_Q G C none r 0 0) := by
  intro N
  induction N with
  | zero => intro f l0 l1 l2 hf; cases hf
  | succ N ih => intro f l0 l1 l2 hf; exact tX10_four_3b hC hK (fun f l0 l1 l2 hf => ih f l0 l1 l2 hf) hf
def fnX10_four (f : pz_H) (a0 : Nat) (p1 : Int32) : Option pz_H :=
  (pz_is f a0 9).bind fun _ =>
  fX10_four_3 pz_F f a0 p1 ((24 : Int32))
theorem mX10_four {l : Launch} {G : pz_G} {f : pz_H} {a0 : Nat} {p1 : Int32} {r : pz_H} (hf : fnX10_four f a0 p1 = some r) : pz_Met l G yX10_four cX10_four 3 none 0 0 0 0 [.ref a0, .int p1] f none r ∧ pz_is f a0 9 = some () := by
  unfold fnX10_four at hf
  obtain ⟨_, h0, hf⟩ := pz_bd hf
  refine ⟨pz_enter (by decide +kernel) (Nat.le_of_ble_eq_true rfl) (fun C hl hC hK hnm => ?_), h0⟩
  subst hl
  refine pz_sub (lv' := [(0, .ref a0), (1, .int p1)]) [0, 1] rfl ?_
  refine pz_bipush (v := (24 : Int32)) hC dX10_four_0 (by decide) ?_
  refine pz_istore_n hC dX10_four_2 (by decide) rfl ?_
  refine pz_sub [1, 2, 0] rfl ?_
  exact tX10_four_3 hC hK _ _ _ _ _ hf
def fnX10_feed (f : pz_H) (a0 : Nat) (p1 : Int32) (p2 : Int32) (p3 : Int32) (p4 : Int32) (p5 : Int32) : Option (Int32 × pz_H) :=
  (pz_is f a0 9).bind fun _ =>
  (pz_sV f a0 9 0 (.int (0 : Int32))).bind fun f1 =>
  (pz_gI f1 a0 9 14).bind fun v2 =>
  if (v2 + (20 : Int32)) ≤ (400 : Int32) then (fnX10_four f1 a0 p1).bind fun x3 =>
  (fnX10_four x3 a0 p2).bind fun x4 =>
  (fnX10_four x4 a0 p3).bind fun x5 =>
  (fnX10_four x5 a0 p4).bind fun x6 =>
  (fnX10_four x6 a0 p5).bind fun x7 =>
  (pz_gI x7 a0 9 14).bind fun v8 =>
  some (v8, x7) else
  some (((-1) : Int32), f1)
theorem mX10_feed {l : Launch} {G : pz_G} {f : pz_H} {a0 : Nat} {p1 : Int32} {p2 : Int32} {p3 : Int32} {p4 : Int32} {p5 : Int32} {r : (Int32 × pz_H)} (hf : fnX10_feed f a0 p1 p2 p3 p4 p5 = some r) : pz_Met l G yX10_feed cX10_feed 6 (some .int) 1 22 0 0 [.ref a0, .int p1, .int p2, .int p3, .int p4, .int p5] f (some (.int r.1)) r.2 ∧ pz_is f a0 9 = some () := by
  unfold fnX10_feed at hf
  obtain ⟨_, h0, hf⟩ := pz_bd hf
  refine ⟨pz_enter (by decide +kernel) (Nat.le_of_ble_eq_true rfl) (fun C hl hC hK hnm => ?_), h0⟩
  subst hl
  refine pz_sub (lv' := [(0, .ref a0), (1, .int p1), (2, .int p2), (3, .int p3), (4, .int p4), (5, .int p5)]) [0, 1, 2, 3, 4, 5] rfl ?_
  refine pz_aload_n hC dX10_feed_0 0 rfl ?_
  refine pz_iconst (v := (0 : Int32)) hC dX10_feed_1 (by decide) ?_
  refine pz_putV hC dX10_feed_2 fp_X10_48 rfl rfl hf (fun f1 hf => ?_)
  refine pz_aload_n hC dX10_feed_5 0 rfl ?_
  refine pz_getI hC dX10_feed_6 fa_X10_169 hf (fun v2 hf => ?_)
  refine pz_bipush (v := (20 : Int32)) hC dX10_feed_9 (by decide) ?_
  refine pz_iadd hC dX10_feed_11 ?_
  refine pz_sipush (v := (400 : Int32)) hC dX10_feed_12 (by decide) ?_
  refine pz_icmp_le hC dX10_feed_15 hf (fun _ hf => ?_) (fun _ hf => ?_)
  · refine pz_aload_n hC dX10_feed_20 0 rfl ?_
    refine pz_iload_n hC dX10_feed_21 1 rfl ?_
    refine pz_Vv (As := [.int p1]) hC hK dX10_feed_22 py_X10_four pv_X10_four lk_X10_219 hf (fun _ h => mX10_four h) rfl rfl (Nat.le_of_ble_eq_true rfl) ⟨by decide, by decide⟩ ⟨by decide, by decide⟩ (fun x3 hf => ?_)
    refine pz_aload_n hC dX10_feed_25 0 rfl ?_
    refine pz_iload_n hC dX10_feed_26 2 rfl ?_
    refine pz_Vv (As := [.int p2]) hC hK dX10_feed_27 py_X10_four pv_X10_four lk_X10_219 hf (fun _ h => mX10_four h) rfl rfl (Nat.le_of_ble_eq_true rfl) ⟨by decide, by decide⟩ ⟨by decide, by decide⟩ (fun x4 hf => ?_)
    refine pz_aload_n hC dX10_feed_30 0 rfl ?_
    refine pz_iload_n hC dX10_feed_31 3 rfl ?_
    refine pz_Vv (As := [.int p3]) hC hK dX10_feed_32 py_X10_four pv_X10_four lk_X10_219 hf (fun _ h => mX10_four h) rfl rfl (Nat.le_of_ble_eq_true rfl) ⟨by decide, by decide⟩ ⟨by decide, by decide⟩ (fun x5 hf => ?_)
    refine pz_aload_n hC dX10_feed_35 0 rfl ?_
    refine pz_iload hC dX10_feed_36 4 rfl ?_
    refine pz_Vv (As := [.int p4]) hC hK dX10_feed_38 py_X10_four pv_X10_four lk_X10_219 hf (fun _ h => mX10_four h) rfl rfl (Nat.le_of_ble_eq_true rfl) ⟨by decide, by decide⟩ ⟨by decide, by decide⟩ (fun x6 hf => ?_)
    refine pz_aload_n hC dX10_feed_41 0 rfl ?_
    refine pz_iload hC dX10_feed_42 5 rfl ?_
    refine pz_Vv (As := [.int p5]) hC hK dX10_feed_44 py_X10_four pv_X10_four lk_X10_219 hf (fun _ h => mX10_four h) rfl rfl (Nat.le_of_ble_eq_true rfl) ⟨by decide, by decide⟩ ⟨by decide, by decide⟩ (fun x7 hf => ?_)
    refine pz_aload_n hC dX10_feed_47 0 rfl ?_
    refine pz_getI hC dX10_feed_48 fa_X10_169 hf (fun v8 hf => ?_)
    exact pz_iretw hC hK dX10_feed_51 hf
  · refine pz_iconst (v := ((-1) : Int32)) hC dX10_feed_18 (by decide) ?_
    exact pz_iretw hC hK dX10_feed_19 hf
def fnX10_end (f : pz_H) (a0 : Nat) (p1 : Int32) : Option (Int32 × pz_H) :=
  (pz_is f a0 9).bind fun _ =>
  (pz_sV f a0 9 0 (.int (0 : Int32))).bind fun f1 =>
  (pz_gI f1 a0 9 14).bind fun v2 =>
  (fnX10_in p1 ((0 : Int32)) v2).bind fun x3 =>
  if x3 = 0 then (pz_b ((0 : Int32))).bind fun x => some (x, f1) else
  (pz_sV f1 a0 9 14 (.int p1)).bind fun f4 =>
  (pz_b ((1 : Int32))).bind fun x => some (x, f4)
theorem mX10_end {l : Launch} {G : pz_G} {f : pz_H} {a0 : Nat} {p1 : Int32} {r : (Int32 × pz_H)} (hf : fnX10_end f a0 p1 = some r) : pz_Met l G yX10_end cX10_end 2 (some .boolean) 1 22 0 0 [.ref a0, .int p1] f (some (.int r.1)) r.2 ∧ pz_is f a0 9 = some () := by
  unfold fnX10_end at hf
  obtain ⟨_, h0, hf⟩ := pz_bd hf
  refine ⟨pz_enter (by decide +kernel) (Nat.le_of_ble_eq_true rfl) (fun C hl hC hK hnm => ?_), h0⟩
  subst hl
  refine pz_sub (lv' := [(0, .ref a0), (1, .int p1)]) [0, 1] rfl ?_
  refine pz_aload_n hC dX10_end_0 0 rfl ?_
  refine pz_iconst (v := (0 : Int32)) hC dX10_end_1 (by decide) ?_
  refine pz_putV hC dX10_end_2 fp_X10_48 rfl rfl hf (fun f1 hf => ?_)
  refine pz_iload_n hC dX10_end_5 1 rfl ?_
  refine pz_iconst (v := (0 : Int32)) hC dX10_end_6 (by decide) ?_
  refine pz_aload_n hC dX10_end_7 0 rfl ?_
  refine pz_getI hC dX10_end_8 fa_X10_169 hf (fun v2 hf => ?_)
  refine pz_Si (As := [.int p1, .int (0 : Int32), .int v2]) hC hK dX10_end_11 py_X10_in ps_X10_in lk_X10_52 hf (fun _ h => mX10_in h) rfl rfl (Nat.le_of_ble_eq_true rfl) ⟨by decide, by decide⟩ ⟨by decide, by decide⟩ (fun x3 hf => ?_)
  refine pz_if_ne hC dX10_end_14 hf (fun _ hf => ?_) (fun _ hf => ?_)
  · refine pz_aload_n hC dX10_end_19 0 rfl ?_
    refine pz_iload_n hC dX10_end_20 1 rfl ?_
    refine pz_putV hC dX10_end_21 fp_X10_169 rfl rfl hf (fun f4 hf => ?_)
    refine pz_iconst (v := (1 : Int32)) hC dX10_end_24 (by decide) ?_
    exact pz_zretw hC hK dX10_end_25 hf
  · refine pz_iconst (v := (0 : Int32)) hC dX10_end_17 (by decide) ?_
    exact pz_zretw hC hK dX10_end_18 hf
def fX10_here_39 (k0 : pz_H → Nat → Option (Int32 × pz_H)) (f : pz_H) (l0 : Nat) : Option (Int32 × pz_H) :=
  (pz_gI f l0 9 16).bind fun v1 =>
  (pz_sV f l0 9 16 (.int (v1 + (1 : Int32)))).bind fun f2 =>
  k0 f2 l0
theorem tX10_here_39 {G : pz_G} {C : pz_C} {f : pz_H} {k0 : pz_H → Nat → Option (Int32 × pz_H)} {l0 : Nat} {r : (Int32 × pz_H)} (hC : pz_OK G C cX10_here 1 RX10) (hK : pz_K C (some .int) 0 0 0 0) (hk0 : ∀ (g : pz_H) (a0 : Nat), k0 g a0 = some r → pz_W G C 1 0 [(0, .ref a0)] [] g 0 0 (pz_Q G C (some (.int r.1)) r.2 0 0)) (hf : fX10_here_39 k0 f l0 = some r) : pz_W G C 1 39 [(0, .ref l0)] [] f 0 0 (pz_Q G C (some (.int r.1)) r.2 0 0) := by
  unfold fX10_here_39 at hf
  refine pz_aload_n hC dX10_here_39 0 rfl ?_
  refine pz_dup hC dX10_here_40 rfl ?_
  refine pz_getI hC dX10_here_41 fa_X10_222 hf (fun v1 hf => ?_)
  refine pz_iconst (v := (1 : Int32)) hC dX10_here_44 (by decide) ?_
  refine pz_iadd hC dX10_here_45 ?_
  refine pz_putV hC dX10_here_46 fp_X10_222 rfl rfl hf (fun f2 hf => ?_)
  refine pz_goto hC dX10_here_49 ?_
  exact hk0 _ _ hf
def fX10_here_76 (f : pz_H) (s0 : Int32) : Option (Int32 × pz_H) :=
  some (s0, f)
theorem tX10_here_76 {G : pz_G} {C : pz_C} {f : pz_H} {s0 : Int32} {r : (Int32 × pz_H)} (hC : pz_OK G C cX10_here 1 RX10) (hK : pz_K C (some .int) 0 0 0 0) (hf : fX10_here_76 f s0 = some r) : pz_W G C 1 76 [] [.int s0] f 0 0 (pz_Q G C (some (.int r.1)) r.2 0 0) := by
  unfold fX10_here_76 at hf
  exact pz_iretw hC hK dX10_here_76 hf
def fX10_here_52 (f : pz_H) (l0 : Nat) : Option (Int32 × pz_H) :=
  (pz_gI f l0 9 16).bind fun v1 =>
  (pz_gI f l0 9 14).bind fun v2 =>
  if v2 ≤ v1 then fX10_here_76 f (((-1) : Int32)) else
  (pz_gR f l0 9 13).bind fun v3 =>
  (pz_gI f l0 9 16).bind fun v4 =>
  (pz_aI f v3 0 v4).bind fun v5 =>
  fX10_here_76 f v5
theorem tX10_here_52 {G : pz_G} {C : pz_C} {f : pz_H} {l0 : Nat} {r : (Int32 × pz_H)} (hC : pz_OK G C cX10_here 1 RX10) (hK : pz_K C (some .int) 0 0 0 0) (hf : fX10_here_52 f l0 = some r) : pz_W G C 1 52 [(0, .ref l0)] [] f 0 0 (pz_Q G C (some (.int r.1)) r.2 0 0) := by
  unfold fX10_here_52 at hf
  refine pz_aload_n hC dX10_here_52 0 rfl ?_
  refine pz_getI hC dX10_here_53 fa_X10_222 hf (fun v1 hf => ?_)
  refine pz_aload_n hC dX10_here_56 0 rfl ?_
  refine pz_getI hC dX10_here_57 fa_X10_169 hf (fun v2 hf => ?_)
  refine pz_icmp_ge hC dX10_here_60 hf (fun _ hf => ?_) (fun _ hf => ?_)
  · refine pz_iconst (v := ((-1) : Int32)) hC dX10_here_75 (by decide) ?_
    refine pz_sub [] rfl ?_
    exact tX10_here_76 hC hK hf
  · refine pz_aload_n hC dX10_here_63 0 rfl ?_
    refine pz_getR hC dX10_here_64 fa_X10_38 hf (fun v3 hf => ?_)
    refine pz_aload_n hC dX10_here_67 0 rfl ?_
    refine pz_getI hC dX10_here_68 fa_X10_222 hf (fun v4 hf => ?_)
    refine pz_iald hC dX10_here_71 hf (fun v5 hf => ?_)
    refine pz_goto hC dX10_here_72 ?_
    refine pz_sub [] rfl ?_
    exact tX10_here_76 hC hK hf
def fX10_here_0b (k0 : pz_H → Nat → Option (Int32 × pz_H)) (f : pz_H) (l0 : Nat) : Option (Int32 × pz_H) :=
  (pz_gI f l0 9 16).bind fun v1 =>
  (pz_gI f l0 9 14).bind fun v2 =>
  if v2 ≤ v1 then fX10_here_52 f l0 else
  (pz_gR f l0 9 13).bind fun v3 =>
  (pz_gI f l0 9 16).bind fun v4 =>
  (pz_aI f v3 0 v4).bind fun v5 =>
  if v5 = (32 : Int32) then fX10_here_39 k0 f l0 else
  (pz_gR f l0 9 13).bind fun v6 =>
  (pz_gI f l0 9 16).bind fun v7 =>
  (pz_aI f v6 0 v7).bind fun v8 =>
  if v8 = (10 : Int32) then fX10_here_39 k0 f l0 else
  fX10_here_52 f l0
theorem tX10_here_0b {G : pz_G} {C : pz_C} {f : pz_H} {k0 : pz_H → Nat → Option (Int32 × pz_H)} {l0 : Nat} {r : (Int32 × pz_H)} (hC : pz_OK G C cX10_here 1 RX10) (hK : pz_K C (some .int) 0 0 0 0) (hk0 : ∀ (g : pz_H) (a0 : Nat), k0 g a0 = some r → pz_W G C 1 0 [(0, .ref a0)] [] g 0 0 (pz_Q G C (some (.int r.1)) r.2 0 0)) (hf : fX10_here_0b k0 f l0 = some r) : pz_W G C 1 0 [(0, .ref l0)] [] f 0 0 (pz_Q G C (some (.int r.1)) r.2 0 0) := by
  unfold fX10_here_0b at hf
  refine pz_aload_n hC dX10_here_0 0 rfl ?_
  refine pz_getI hC dX10_here_1 fa_X10_222 hf (fun v1 hf => ?_)
  refine pz_aload_n hC dX10_here_4 0 rfl ?_
  refine pz_getI hC dX10_here_5 fa_X10_169 hf (fun v2 hf => ?_)
  refine pz_icmp_ge hC dX10_here_8 hf (fun _ hf => ?_) (fun _ hf => ?_)
  · exact tX10_here_52 hC hK hf
  · refine pz_aload_n hC dX10_here_11 0 rfl ?_
    refine pz_getR hC dX10_here_12 fa_X10_38 hf (fun v3 hf => ?_)
    refine pz_aload_n hC dX10_here_15 0 rfl ?_
    refine pz_getI hC dX10_here_16 fa_X10_222 hf (fun v4 hf => ?_)
    refine pz_iald hC dX10_here_19 hf (fun v5 hf => ?_)
    refine pz_bipush (v := (32 : Int32)) hC dX10_here_20 (by decide) ?_
    refine pz_icmp_eq hC dX10_here_22 hf (fun _ hf => ?_) (fun _ hf => ?_)
    · exact tX10_here_39 hC hK hk0 hf
    · refine pz_aload_n hC dX10_here_25 0 rfl ?_
      refine pz_getR hC dX10_here_26 fa_X10_38 hf (fun v6 hf => ?_)
      refine pz_aload_n hC dX10_here_29 0 rfl ?_
      refine pz_getI hC dX10_here_30 fa_X10_222 hf (fun v7 hf => ?_)
      refine pz_iald hC dX10_here_33 hf (fun v8 hf => ?_)
      refine pz_bipush (v := (10 : Int32)) hC dX10_here_34 (by decide) ?_
      refine pz_icmp_ne hC dX10_here_36 hf (fun _ hf => ?_) (fun _ hf => ?_)
      · exact tX10_here_52 hC hK hf
      · exact tX10_here_39 hC hK hk0 hf
def fX10_here_0 : Nat → pz_H → Nat → Option (Int32 × pz_H)
  | 0, _, _ => none
  | n + 1, f, l0 => fX10_here_0b (fX10_here_0 n) f l0
theorem tX10_here_0 {G : pz_G} {C : pz_C} {r : (Int32 × pz_H)} (hC : pz_OK G C cX10_here 1 RX10) (hK : pz_K C (some .int) 0 0 0 0) : ∀ (N : Nat) (f : pz_H) (l0 : Nat), fX10_here_0 N f l0 = some r → pz_W G C 1 0 [(0, .ref l0)] [] f 0 0 (pz_Q G C (some (.int r.1)) r.2 0 0) := by
  intro N
  induction N with
  | zero => intro f l0 hf; cases hf
  | succ N ih => intro f l0 hf; exact tX10_here_0b hC hK (fun f l0 hf => ih f l0 hf) hf
def fnX10_here (f : pz_H) (a0 : Nat) : Option (Int32 × pz_H) :=
  (pz_is f a0 9).bind fun _ =>
  fX10_here_0 pz_F f a0
theorem mX10_here {l : Launch} {G : pz_G} {f : pz_H} {a0 : Nat} {r : (Int32 × pz_H)} (hf : fnX10_here f a0 = some r) : pz_Met l G yX10_here cX10_here 1 (some .int) 0 0 0 0 [.ref a0] f (some (.int r.1)) r.2 ∧ pz_is f a0 9 = some () := by
  unfold fnX10_here at hf
  obtain ⟨_, h0, hf⟩ := pz_bd hf
  refine ⟨pz_enter (by decide +kernel) (Nat.le_of_ble_eq_true rfl) (fun C hl hC hK hnm => ?_), h0⟩
  subst hl
  refine pz_sub (lv' := [(0, .ref a0)]) [0] rfl ?_
  exact tX10_here_0 hC hK _ _ _ hf
def fnX10_fails (f : pz_H) (a0 : Nat) (p1 : Int32) (p2 : Int32) : Option (Int32 × pz_H) :=
  (pz_is f a0 9).bind fun _ =>
  (pz_sV f a0 9 17 (.int (p1 + ((8 : Int32) * p2)))).bind fun f1 =>
  (pz_b ((0 : Int32))).bind fun x => some (x, f1)
theorem mX10_fails {l : Launch} {G : pz_G} {f : pz_H} {a0 : Nat} {p1 : Int32} {p2 : Int32} {r : (Int32 × pz_H)} (hf : fnX10_fails f a0 p1 p2 = some r) : pz_Met l G yX10_fails cX10_fails 3 (some .boolean) 0 0 0 0 [.ref a0, .int p1, .int p2] f (some (.int r.1)) r.2 ∧ pz_is f a0 9 = some () := by
  unfold fnX10_fails at hf
  obtain ⟨_, h0, hf⟩ := pz_bd hf
  refine ⟨pz_enter (by decide +kernel) (Nat.le_of_ble_eq_true rfl) (fun C hl hC hK hnm => ?_), h0⟩
  subst hl
  refine pz_sub (lv' := [(0, .ref a0), (1, .int p1), (2, .int p2)]) [0, 1, 2] rfl ?_
  refine pz_aload_n hC dX10_fails_0 0 rfl ?_
  refine pz_iload_n hC dX10_fails_1 1 rfl ?_
  refine pz_bipush (v := (8 : Int32)) hC dX10_fails_2 (by decide) ?_
  refine pz_iload_n hC dX10_fails_4 2 rfl ?_
  refine pz_imul hC dX10_fails_5 ?_
  refine pz_iadd hC dX10_fails_6 ?_
  refine pz_putV hC dX10_fails_7 fp_X10_225 rfl rfl hf (fun f1 hf => ?_)
  refine pz_iconst (v := (0 : Int32)) hC dX10_fails_10 (by decide) ?_
  exact pz_zretw hC hK dX10_fails_11 hf
def fX10_number_109 (k37 : pz_H → Nat → Int32 → Int32 → Int32 → Option (Int32 × pz_H)) (f : pz_H) (l0 : Nat) (l1 : Int32) (l2 : Int32) (l3 : Int32) (s0 : Int32) (s1 : Nat) : Option (Int32 × pz_H) :=
  (pz_sV f s1 9 18 (.int s0)).bind fun f1 =>
  (pz_gI f1 l0 9 16).bind fun v2 =>
  (pz_sV f1 l0 9 16 (.int (v2 + (1 : Int32)))).bind fun f3 =>
  k37 f3 l0 l1 l2 l3
theorem tX10_number_109 {G : pz_G} {C : pz_C} {f : pz_H} {k37 : pz_H → Nat → Int32 → Int32 → Int32 → Option (Int32 × pz_H)} {l0 : Nat} {l1 : Int32} {l2 : Int32} {l3 : Int32} {s0 : Int32} {s1 : Nat} {r : (Int32 × pz_H)} (hC : pz_OK G C cX10_number 4 RX10) (hK : pz_K C (some .boolean) 1 22 0 0) (hk37 : ∀ (g : pz_H) (a0 : Nat) (a1 : Int32) (a2 : Int32) (a3 : Int32), k37 g a0 a1 a2 a3 = some r → pz_W G C 4 37 [(0, .ref a0), (1, .int a1), (2, .int a2), (3, .int a3)] [] g 0 0 (pz_Q G C (some (.int r.1)) r.2 0 0)) (hf : fX10_number_109 k37 f l0 l1 l2 l3 s0 s1 = some r) : pz_W G C 4 109 [(0, .ref l0), (1, .int l1), (2, .int l2), (3, .int l3)] [.int s0, .ref s1] f 0 0 (pz_Q G C (some (.int r.1)) r.2 0 0) := by
  unfold fX10_number_109 at hf
  refine pz_putV hC dX10_number_109 fp_X10_237 rfl rfl hf (fun f1 hf => ?_)
  refine pz_aload_n hC dX10_number_112 0 rfl ?_
  refine pz_dup hC dX10_number_113 rfl ?_
  refine pz_getI hC dX10_number_114 fa_X10_222 hf (fun v2 hf => ?_)
  refine pz_iconst (v := (1 : Int32)) hC dX10_number_117 (by decide) ?_
  refine pz_iadd hC dX10_number_118 ?_
  refine pz_putV hC dX10_number_119 fp_X10_222 rfl rfl hf (fun f3 hf => ?_)
  refine pz_goto hC dX10_number_122 ?_
  exact hk37 _ _ _ _ _ hf
def fX10_number_188 (f : pz_H) (s0 : Int32) : Option (Int32 × pz_H) :=
  (pz_b s0).bind fun x => some (x, f)
theorem tX10_number_188 {G : pz_G} {C : pz_C} {f : pz_H} {s0 : Int32} {r : (Int32 × pz_H)} (hC : pz_OK G C cX10_number 4 RX10) (hK : pz_K C (some .boolean) 1 22 0 0) (hf : fX10_number_188 f s0 = some r) : pz_W G C 4 188 [] [.int s0] f 0 0 (pz_Q G C (some (.int r.1)) r.2 0 0) := by
  unfold fX10_number_188 at hf
  exact pz_zretw hC hK dX10_number_188 hf
def fX10_number_183 (f : pz_H) : Option (Int32 × pz_H) :=
  fX10_number_188 f ((1 : Int32))
theorem tX10_number_183 {G : pz_G} {C : pz_C} {f : pz_H} {r : (Int32 × pz_H)} (hC : pz_OK G C cX10_number 4 RX10) (hK : pz_K C (some .boolean) 1 22 0 0) (hf : fX10_number_183 f = some r) : pz_W G C 4 183 [] [] f 0 0 (pz_Q G C (some (.int r.1)) r.2 0 0) := by
  unfold fX10_number_183 at hf
  refine pz_iconst (v := (1 : Int32)) hC dX10_number_183 (by decide) ?_
  refine pz_goto hC dX10_number_184 ?_
  exact tX10_number_188 hC hK hf
def fX10_number_125 (f : pz_H) (l0 : Nat) (l1 : Int32) (l2 : Int32) (l3 : Int32) : Option (Int32 × pz_H) :=
  (pz_gI f l0 9 16).bind fun v1 =>
  (pz_gI f l0 9 19).bind fun v2 =>
  if (v1 - v2) ≤ (7 : Int32) then (pz_gR f l0 9 21).bind fun v3 =>
  (pz_gI f l0 9 18).bind fun v4 =>
  (pz_tI f v3 0 l1 v4).bind fun f5 =>
  (pz_gI f5 l0 9 18).bind fun v6 =>
  (fnX10_in v6 l2 l3).bind fun x7 =>
  if x7 = 0 then (pz_gI f5 l0 9 19).bind fun v8 =>
  (fnX10_fails f5 l0 ((2 : Int32)) v8).bind fun x9 =>
  if x9.1 = 0 then fX10_number_188 x9.2 ((0 : Int32)) else
  fX10_number_183 x9.2 else
  fX10_number_183 f5 else
  (pz_gI f l0 9 19).bind fun v10 =>
  (fnX10_fails f l0 ((1 : Int32)) v10).bind fun x11 =>
  (pz_b x11.1).bind fun x => some (x, x11.2)
theorem tX10_number_125 {G : pz_G} {C : pz_C} {f : pz_H} {l0 : Nat} {l1 : Int32} {l2 : Int32} {l3 : Int32} {r : (Int32 × pz_H)} (hC : pz_OK G C cX10_number 4 RX10) (hK : pz_K C (some .boolean) 1 22 0 0) (hf : fX10_number_125 f l0 l1 l2 l3 = some r) : pz_W G C 4 125 [(0, .ref l0), (1, .int l1), (2, .int l2), (3, .int l3)] [] f 0 0 (pz_Q G C (some (.int r.1)) r.2 0 0) := by
  unfold fX10_number_125 at hf
  refine pz_aload_n hC dX10_number_125 0 rfl ?_
  refine pz_getI hC dX10_number_126 fa_X10_222 hf (fun v1 hf => ?_)
  refine pz_aload_n hC dX10_number_129 0 rfl ?_
  refine pz_getI hC dX10_number_130 fa_X10_234 hf (fun v2 hf => ?_)
  refine pz_isub hC dX10_number_133 ?_
  refine pz_bipush (v := (7 : Int32)) hC dX10_number_134 (by decide) ?_
  refine pz_icmp_le hC dX10_number_136 hf (fun _ hf => ?_) (fun _ hf => ?_)
  · refine pz_aload_n hC dX10_number_149 0 rfl ?_
    refine pz_getR hC dX10_number_150 fa_X10_41 hf (fun v3 hf => ?_)
    refine pz_iload_n hC dX10_number_153 1 rfl ?_
    refine pz_aload_n hC dX10_number_154 0 rfl ?_
    refine pz_getI hC dX10_number_155 fa_X10_237 hf (fun v4 hf => ?_)
    refine pz_iast hC dX10_number_158 hf (fun f5 hf => ?_)
    refine pz_aload_n hC dX10_number_159 0 rfl ?_
    refine pz_getI hC dX10_number_160 fa_X10_237 hf (fun v6 hf => ?_)
    refine pz_iload_n hC dX10_number_163 2 rfl ?_
    refine pz_iload_n hC dX10_number_164 3 rfl ?_
    refine pz_Si (As := [.int v6, .int l2, .int l3]) hC hK dX10_number_165 py_X10_in ps_X10_in lk_X10_52 hf (fun _ h => mX10_in h) rfl rfl (Nat.le_of_ble_eq_true rfl) ⟨by decide, by decide⟩ ⟨by decide, by decide⟩ (fun x7 hf => ?_)
    refine pz_if_ne hC dX10_number_168 hf (fun _ hf => ?_) (fun _ hf => ?_)
    · refine pz_sub [] rfl ?_
      exact tX10_number_183 hC hK hf
    · refine pz_aload_n hC dX10_number_171 0 rfl ?_
      refine pz_iconst (v := (2 : Int32)) hC dX10_number_172 (by decide) ?_
      refine pz_aload_n hC dX10_number_173 0 rfl ?_
      refine pz_getI hC dX10_number_174 fa_X10_234 hf (fun v8 hf => ?_)
      refine pz_Viw (As := [.int (2 : Int32), .int v8]) hC hK dX10_number_177 py_X10_fails pv_X10_fails lk_X10_231 hf (fun _ h => mX10_fails h) rfl rfl (Nat.le_of_ble_eq_true rfl) ⟨by decide, by decide⟩ ⟨by decide, by decide⟩ (fun x9 hf => ?_)
      refine pz_if_eq hC dX10_number_180 hf (fun _ hf => ?_) (fun _ hf => ?_)
      · refine pz_iconst (v := (0 : Int32)) hC dX10_number_187 (by decide) ?_
        refine pz_sub [] rfl ?_
        exact tX10_number_188 hC hK hf
      · refine pz_sub [] rfl ?_
        exact tX10_number_183 hC hK hf
  · refine pz_aload_n hC dX10_number_139 0 rfl ?_
    refine pz_iconst (v := (1 : Int32)) hC dX10_number_140 (by decide) ?_
    refine pz_aload_n hC dX10_number_141 0 rfl ?_
    refine pz_getI hC dX10_number_142 fa_X10_234 hf (fun v10 hf => ?_)
    refine pz_Viw (As := [.int (1 : Int32), .int v10]) hC hK dX10_number_145 py_X10_fails pv_X10_fails lk_X10_231 hf (fun _ h => mX10_fails h) rfl rfl (Nat.le_of_ble_eq_true rfl) ⟨by decide, by decide⟩ ⟨by decide, by decide⟩ (fun x11 hf => ?_)
    exact pz_zretw hC hK dX10_number_148 hf
def fX10_number_37b (k37 : pz_H → Nat → Int32 → Int32 → Int32 → Option (Int32 × pz_H)) (f : pz_H) (l0 : Nat) (l1 : Int32) (l2 : Int32) (l3 : Int32) : Option (Int32 × pz_H) :=
  (pz_gI f l0 9 16).bind fun v1 =>
  (pz_gI f l0 9 14).bind fun v2 =>
  if v2 ≤ v1 then fX10_number_125 f l0 l1 l2 l3 else
  (pz_gR f l0 9 13).bind fun v3 =>
  (pz_gI f l0 9 16).bind fun v4 =>
  (pz_aI f v3 0 v4).bind fun v5 =>
  (fnX10_in v5 ((48 : Int32)) ((57 : Int32))).bind fun x6 =>
  if x6 = 0 then fX10_number_125 f l0 l1 l2 l3 else
  (pz_gI f l0 9 16).bind fun v7 =>
  (pz_gI f l0 9 19).bind fun v8 =>
  if (7 : Int32) ≤ (v7 - v8) then (pz_gI f l0 9 18).bind fun v9 =>
  fX10_number_109 k37 f l0 l1 l2 l3 v9 l0 else
  (pz_gI f l0 9 18).bind fun v10 =>
  (pz_gR f l0 9 13).bind fun v11 =>
  (pz_gI f l0 9 16).bind fun v12 =>
  (pz_aI f v11 0 v12).bind fun v13 =>
  fX10_number_109 k37 f l0 l1 l2 l3 (((((10 : Int32) * v10) + v13) - (48 : Int32))) l0
theorem tX10_number_37b {G : pz_G} {C : pz_C} {f : pz_H} {k37 : pz_H → Nat → Int32 → Int32 → Int32 → Option (Int32 × pz_H)} {l0 : Nat} {l1 : Int32} {l2 : Int32} {l3 : Int32} {r : (Int32 × pz_H)} (hC : pz_OK G C cX10_number 4 RX10) (hK : pz_K C (some .boolean) 1 22 0 0) (hk37 : ∀ (g : pz_H) (a0 : Nat) (a1 : Int32) (a2 : Int32) (a3 : Int32), k37 g a0 a1 a2 a3 = some r → pz_W G C 4 37 [(0, .ref a0), (1, .int a1), (2, .int a2), (3, .int a3)] [] g 0 0 (pz_Q G C (some (.int r.1)) r.2 0 0)) (hf : fX10_number_37b k37 f l0 l1 l2 l3 = some r) : pz_W G C 4 37 [(0, .ref l0), (1, .int l1), (2, .int l2), (3, .int l3)] [] f 0 0 (pz_Q G C (some (.int r.1)) r.2 0 0) := by
  unfold fX10_number_37b at hf
  refine pz_aload_n hC dX10_number_37 0 rfl ?_
  refine pz_getI hC dX10_number_38 fa_X10_222 hf (fun v1 hf => ?_)
  refine pz_aload_n hC dX10_number_41 0 rfl ?_
  refine pz_getI hC dX10_number_42 fa_X10_169 hf (fun v2 hf => ?_)
  refine pz_icmp_ge hC dX10_number_45 hf (fun _ hf => ?_) (fun _ hf => ?_)
  · exact tX10_number_125 hC hK hf
  · refine pz_aload_n hC dX10_number_48 0 rfl ?_
    refine pz_getR hC dX10_number_49 fa_X10_38 hf (fun v3 hf => ?_)
    refine pz_aload_n hC dX10_number_52 0 rfl ?_
    refine pz_getI hC dX10_number_53 fa_X10_222 hf (fun v4 hf => ?_)
    refine pz_iald hC dX10_number_56 hf (fun v5 hf => ?_)
    refine pz_bipush (v := (48 : Int32)) hC dX10_number_57 (by decide) ?_
    refine pz_bipush (v := (57 : Int32)) hC dX10_number_59 (by decide) ?_
    refine pz_Si (As := [.int v5, .int (48 : Int32), .int (57 : Int32)]) hC hK dX10_number_61 py_X10_in ps_X10_in lk_X10_52 hf (fun _ h => mX10_in h) rfl rfl (Nat.le_of_ble_eq_true rfl) ⟨by decide, by decide⟩ ⟨by decide, by decide⟩ (fun x6 hf => ?_)
    refine pz_if_eq hC dX10_number_64 hf (fun _ hf => ?_) (fun _ hf => ?_)
    · exact tX10_number_125 hC hK hf
    · refine pz_aload_n hC dX10_number_67 0 rfl ?_
      refine pz_aload_n hC dX10_number_68 0 rfl ?_
      refine pz_getI hC dX10_number_69 fa_X10_222 hf (fun v7 hf => ?_)
      refine pz_aload_n hC dX10_number_72 0 rfl ?_
      refine pz_getI hC dX10_number_73 fa_X10_234 hf (fun v8 hf => ?_)
      refine pz_isub hC dX10_number_76 ?_
      refine pz_bipush (v := (7 : Int32)) hC dX10_number_77 (by decide) ?_
      refine pz_icmp_ge hC dX10_number_79 hf (fun _ hf => ?_) (fun _ hf => ?_)
      · refine pz_aload_n hC dX10_number_105 0 rfl ?_
        refine pz_getI hC dX10_number_106 fa_X10_237 hf (fun v9 hf => ?_)
        exact tX10_number_109 hC hK hk37 hf
      · refine pz_bipush (v := (10 : Int32)) hC dX10_number_82 (by decide) ?_
        refine pz_aload_n hC dX10_number_84 0 rfl ?_
        refine pz_getI hC dX10_number_85 fa_X10_237 hf (fun v10 hf => ?_)
        refine pz_imul hC dX10_number_88 ?_
        refine pz_aload_n hC dX10_number_89 0 rfl ?_
        refine pz_getR hC dX10_number_90 fa_X10_38 hf (fun v11 hf => ?_)
        refine pz_aload_n hC dX10_number_93 0 rfl ?_
        refine pz_getI hC dX10_number_94 fa_X10_222 hf (fun v12 hf => ?_)
        refine pz_iald hC dX10_number_97 hf (fun v13 hf => ?_)
        refine pz_iadd hC dX10_number_98 ?_
        refine pz_bipush (v := (48 : Int32)) hC dX10_number_99 (by decide) ?_
        refine pz_isub hC dX10_number_101 ?_
        refine pz_goto hC dX10_number_102 ?_
        exact tX10_number_109 hC hK hk37 hf
def fX10_number_37 : Nat → pz_H → Nat → Int32 → Int32 → Int32 → Option (Int32 × pz_H)
  | 0, _, _, _, _, _ => none
  | n + 1, f, l0, l1, l2, l3 => fX10_number_37b (fX10_number_37 n) f l0 l1 l2 l3
theorem tX10_number_37 {G : pz_G} {C : pz_C} {r : (Int32 × pz_H)} (hC : pz_OK G C cX10_number 4 RX10) (hK : pz_K C (some .boolean) 1 22 0 0) : ∀ (N : Nat) (f : pz_H) (l0 : Nat) (l1 : Int32) (l2 : Int32) (l3 : Int32), fX10_number_37 N f l0 l1 l2 l3 = some r → pz_W G C 4 37 [(0, .ref l0), (1, .int l1), (2, .int l2), (3, .int l3)] [] f 0 0 (pz_Q G C (some (.int r.1)) r.2 0 0) := by
  intro N
  induction N with
  | zero => intro f l0 l1 l2 l3 hf; cases hf
  | succ N ih => intro f l0 l1 l2 l3 hf; exact tX10_number_37b hC hK (fun f l0 l1 l2 l3 hf => ih f l0 l1 l2 l3 hf) hf
def fnX10_number (f : pz_H) (a0 : Nat) (p1 : Int32) (p2 : Int32) (p3 : Int32) : Option (Int32 × pz_H) :=
  (pz_is f a0 9).bind fun _ =>
  (fnX10_here f a0).bind fun x1 =>
  (fnX10_in x1.1 ((48 : Int32)) ((57 : Int32))).bind fun x2 =>
  if x2 = 0 then (pz_gI x1.2 a0 9 16).bind fun v6 =>
  (fnX10_fails x1.2 a0 ((1 : Int32)) v6).bind fun x7 =>
  (pz_b x7.1).bind fun x => some (x, x7.2) else
  (pz_gI x1.2 a0 9 16).bind fun v3 =>
  (pz_sV x1.2 a0 9 19 (.int v3)).bind fun f4 =>
  (pz_sV f4 a0 9 18 (.int (0 : Int32))).bind fun f5 =>
  fX10_number_37 pz_F f5 a0 p1 p2 p3
theorem mX10_number {l : Launch} {G : pz_G} {f : pz_H} {a0 : Nat} {p1 : Int32} {p2 : Int32} {p3 : Int32} {r : (Int32 × pz_H)} (hf : fnX10_number f a0 p1 p2 p3 = some r) : pz_Met l G yX10_number cX10_number 4 (some .boolean) 1 22 0 0 [.ref a0, .int p1, .int p2, .int p3] f (some (.int r.1)) r.2 ∧ pz_is f a0 9 = some () := by
  unfold fnX10_number at hf
  obtain ⟨_, h0, hf⟩ := pz_bd hf
  refine ⟨pz_enter (by decide +kernel) (Nat.le_of_ble_eq_true rfl) (fun C hl hC hK hnm => ?_), h0⟩
  subst hl
  refine pz_sub (lv' := [(0, .ref a0), (1, .int p1), (2, .int p2), (3, .int p3)]) [0, 1, 2, 3] rfl ?_
  refine pz_aload_n hC dX10_number_0 0 rfl ?_
  refine pz_Viw (As := []) hC hK dX10_number_1 py_X10_here pv_X10_here lk_X10_228 hf (fun _ h => mX10_here h) rfl rfl (Nat.le_of_ble_eq_true rfl) ⟨by decide, by decide⟩ ⟨by decide, by decide⟩ (fun x1 hf => ?_)
  refine pz_bipush (v := (48 : Int32)) hC dX10_number_4 (by decide) ?_
  refine pz_bipush (v := (57 : Int32)) hC dX10_number_6 (by decide) ?_
  refine pz_Si (As := [.int x1.1, .int (48 : Int32), .int (57 : Int32)]) hC hK dX10_number_8 py_X10_in ps_X10_in lk_X10_52 hf (fun _ h => mX10_in h) rfl rfl (Nat.le_of_ble_eq_true rfl) ⟨by decide, by decide⟩ ⟨by decide, by decide⟩ (fun x2 hf => ?_)
  refine pz_if_ne hC dX10_number_11 hf (fun _ hf => ?_) (fun _ hf => ?_)
  · refine pz_aload_n hC dX10_number_24 0 rfl ?_
    refine pz_aload_n hC dX10_number_25 0 rfl ?_
    refine pz_getI hC dX10_number_26 fa_X10_222 hf (fun v3 hf => ?_)
    refine pz_putV hC dX10_number_29 fp_X10_234 rfl rfl hf (fun f4 hf => ?_)
    refine pz_aload_n hC dX10_number_32 0 rfl ?_
    refine pz_iconst (v := (0 : Int32)) hC dX10_number_33 (by decide) ?_
    refine pz_putV hC dX10_number_34 fp_X10_237 rfl rfl hf (fun f5 hf => ?_)
    exact tX10_number_37 hC hK _ _ _ _ _ _ hf
  · refine pz_aload_n hC dX10_number_14 0 rfl ?_
    refine pz_iconst (v := (1 : Int32)) hC dX10_number_15 (by decide) ?_
    refine pz_aload_n hC dX10_number_16 0 rfl ?_
    refine pz_getI hC dX10_number_17 fa_X10_222 hf (fun v6 hf => ?_)
    refine pz_Viw (As := [.int (1 : Int32), .int v6]) hC hK dX10_number_20 py_X10_fails pv_X10_fails lk_X10_231 hf (fun _ h => mX10_fails h) rfl rfl (Nat.le_of_ble_eq_true rfl) ⟨by decide, by decide⟩ ⟨by decide, by decide⟩ (fun x7 hf => ?_)
    exact pz_zretw hC hK dX10_number_23 hf
def fnX10_month (f : pz_H) (a0 : Nat) (p1 : Int32) : Option (Int32 × pz_H) :=
  (pz_is f a0 9).bind fun _ =>
  (fnX10_number f a0 p1 ((0 : Int32)) ((1799 : Int32))).bind fun x1 =>
  (pz_b x1.1).bind fun x => some (x, x1.2)
theorem mX10_month {l : Launch} {G : pz_G} {f : pz_H} {a0 : Nat} {p1 : Int32} {r : (Int32 × pz_H)} (hf : fnX10_month f a0 p1 = some r) : pz_Met l G yX10_month cX10_month 2 (some .boolean) 2 45 0 0 [.ref a0, .int p1] f (some (.int r.1)) r.2 ∧ pz_is f a0 9 = some () := by
  unfold fnX10_month at hf
  obtain ⟨_, h0, hf⟩ := pz_bd hf
  refine ⟨pz_enter (by decide +kernel) (Nat.le_of_ble_eq_true rfl) (fun C hl hC hK hnm => ?_), h0⟩
  subst hl
  refine pz_sub (lv' := [(0, .ref a0), (1, .int p1)]) [0, 1] rfl ?_
  refine pz_aload_n hC dX10_month_0 0 rfl ?_
  refine pz_iload_n hC dX10_month_1 1 rfl ?_
  refine pz_iconst (v := (0 : Int32)) hC dX10_month_2 (by decide) ?_
  refine pz_sipush (v := (1799 : Int32)) hC dX10_month_3 (by decide) ?_
  refine pz_Viw (As := [.int p1, .int (0 : Int32), .int (1799 : Int32)]) hC hK dX10_month_6 py_X10_number pv_X10_number lk_X10_240 hf (fun _ h => mX10_number h) rfl rfl (Nat.le_of_ble_eq_true rfl) ⟨by decide, by decide⟩ ⟨by decide, by decide⟩ (fun x1 hf => ?_)
  exact pz_zretw hC hK dX10_month_9 hf
def fX10_readWord_74 (k12 : pz_H → Nat → Int64 → Int32 → Option (Int64 × pz_H)) (f : pz_H) (l0 : Nat) (l3 : Int32) (s0 : Int64) : Option (Int64 × pz_H) :=
  (pz_gI f l0 9 16).bind fun v1 =>
  (pz_sV f l0 9 16 (.int (v1 + (1 : Int32)))).bind fun f2 =>
  k12 f2 l0 s0 ((l3 + 1))
theorem tX10_readWord_74 {G : pz_G} {C : pz_C} {f : pz_H} {k12 : pz_H → Nat → Int64 → Int32 → Option (Int64 × pz_H)} {l0 : Nat} {l3 : Int32} {s0 : Int64} {r : (Int64 × pz_H)} (hC : pz_OK G C cX10_readWord 4 RX10) (hK : pz_K C (some .long) 1 22 0 0) (hk12 : ∀ (g : pz_H) (a0 : Nat) (a1 : Int64) (a3 : Int32), k12 g a0 a1 a3 = some r → pz_W G C 4 12 [(0, .ref a0), (1, .long a1), (3, .int a3)] [] g 0 0 (pz_Q G C (some (.long r.1)) r.2 0 0)) (hf : fX10_readWord_74 k12 f l0 l3 s0 = some r) : pz_W G C 4 74 [(0, .ref l0), (3, .int l3)] [.long s0] f 0 0 (pz_Q G C (some (.long r.1)) r.2 0 0) := by
  unfold fX10_readWord_74 at hf
  refine pz_lstore_n hC dX10_readWord_74 (by decide) rfl ?_
  refine pz_iinc (v := (l3 + 1)) hC dX10_readWord_75 2 rfl rfl (by decide) rfl ?_
  refine pz_aload_n hC dX10_readWord_78 2 rfl ?_
  refine pz_dup hC dX10_readWord_79 rfl ?_
  refine pz_getI hC dX10_readWord_80 fa_X10_222 hf (fun v1 hf => ?_)
  refine pz_iconst (v := (1 : Int32)) hC dX10_readWord_83 (by decide) ?_
  refine pz_iadd hC dX10_readWord_84 ?_
  refine pz_putV hC dX10_readWord_85 fp_X10_222 rfl rfl hf (fun f2 hf => ?_)
  refine pz_goto hC dX10_readWord_88 ?_
  refine pz_sub [2, 1, 0] rfl ?_
  exact hk12 _ _ _ _ hf
def fX10_readWord_91 (f : pz_H) (l1 : Int64) : Option (Int64 × pz_H) :=
  some (l1, f)
theorem tX10_readWord_91 {G : pz_G} {C : pz_C} {f : pz_H} {l1 : Int64} {r : (Int64 × pz_H)} (hC : pz_OK G C cX10_readWord 4 RX10) (hK : pz_K C (some .long) 1 22 0 0) (hf : fX10_readWord_91 f l1 = some r) : pz_W G C 4 91 [(1, .long l1)] [] f 0 0 (pz_Q G C (some (.long r.1)) r.2 0 0) := by
  unfold fX10_readWord_91 at hf
  refine pz_lload_n hC dX10_readWord_91 0 rfl ?_
  exact pz_lretw hC hK dX10_readWord_92 hf
def fX10_readWord_12b (k12 : pz_H → Nat → Int64 → Int32 → Option (Int64 × pz_H)) (f : pz_H) (l0 : Nat) (l1 : Int64) (l3 : Int32) : Option (Int64 × pz_H) :=
  (pz_gI f l0 9 16).bind fun v1 =>
  (pz_gI f l0 9 14).bind fun v2 =>
  if v2 ≤ v1 then fX10_readWord_91 f l1 else
  (pz_gR f l0 9 13).bind fun v3 =>
  (pz_gI f l0 9 16).bind fun v4 =>
  (pz_aI f v3 0 v4).bind fun v5 =>
  (fnX10_in v5 ((97 : Int32)) ((122 : Int32))).bind fun x6 =>
  if x6 = 0 then fX10_readWord_91 f l1 else
  if (8 : Int32) ≤ l3 then fX10_readWord_74 k12 f l0 l3 (((-1) : Int64)) else
  (pz_gR f l0 9 13).bind fun v7 =>
  (pz_gI f l0 9 16).bind fun v8 =>
  (pz_aI f v7 0 v8).bind fun v9 =>
  fX10_readWord_74 k12 f l0 l3 ((((l1 * (27 : Int64)) + v9.toInt64) - (96 : Int64)))
theorem tX10_readWord_12b {G : pz_G} {C : pz_C} {f : pz_H} {k12 : pz_H → Nat → Int64 → Int32 → Option (Int64 × pz_H)} {l0 : Nat} {l1 : Int64} {l3 : Int32} {r : (Int64 × pz_H)} (hC : pz_OK G C cX10_readWord 4 RX10) (hK : pz_K C (some .long) 1 22 0 0) (hk12 : ∀ (g : pz_H) (a0 : Nat) (a1 : Int64) (a3 : Int32), k12 g a0 a1 a3 = some r → pz_W G C 4 12 [(0, .ref a0), (1, .long a1), (3, .int a3)] [] g 0 0 (pz_Q G C (some (.long r.1)) r.2 0 0)) (hf : fX10_readWord_12b k12 f l0 l1 l3 = some r) : pz_W G C 4 12 [(0, .ref l0), (1, .long l1), (3, .int l3)] [] f 0 0 (pz_Q G C (some (.long r.1)) r.2 0 0) := by
  unfold fX10_readWord_12b at hf
  refine pz_aload_n hC dX10_readWord_12 0 rfl ?_
  refine pz_getI hC dX10_readWord_13 fa_X10_222 hf (fun v1 hf => ?_)
  refine pz_aload_n hC dX10_readWord_16 0 rfl ?_
  refine pz_getI hC dX10_readWord_17 fa_X10_169 hf (fun v2 hf => ?_)
  refine pz_icmp_ge hC dX10_readWord_20 hf (fun _ hf => ?_) (fun _ hf => ?_)
  · refine pz_sub [1] rfl ?_
    exact tX10_readWord_91 hC hK hf
  · refine pz_aload_n hC dX10_readWord_23 0 rfl ?_
    refine pz_getR hC dX10_readWord_24 fa_X10_38 hf (fun v3 hf => ?_)
    refine pz_aload_n hC dX10_readWord_27 0 rfl ?_
    refine pz_getI hC dX10_readWord_28 fa_X10_222 hf (fun v4 hf => ?_)
    refine pz_iald hC dX10_readWord_31 hf (fun v5 hf => ?_)
    refine pz_bipush (v := (97 : Int32)) hC dX10_readWord_32 (by decide) ?_
    refine pz_bipush (v := (122 : Int32)) hC dX10_readWord_34 (by decide) ?_
    refine pz_Si (As := [.int v5, .int (97 : Int32), .int (122 : Int32)]) hC hK dX10_readWord_36 py_X10_in ps_X10_in lk_X10_52 hf (fun _ h => mX10_in h) rfl rfl (Nat.le_of_ble_eq_true rfl) ⟨by decide, by decide⟩ ⟨by decide, by decide⟩ (fun x6 hf => ?_)
    refine pz_if_eq hC dX10_readWord_39 hf (fun _ hf => ?_) (fun _ hf => ?_)
    · refine pz_sub [1] rfl ?_
      exact tX10_readWord_91 hC hK hf
    · refine pz_iload_n hC dX10_readWord_42 2 rfl ?_
      refine pz_bipush (v := (8 : Int32)) hC dX10_readWord_43 (by decide) ?_
      refine pz_icmp_ge hC dX10_readWord_45 hf (fun _ hf => ?_) (fun _ hf => ?_)
      · refine pz_ldc2 hC dX10_readWord_71 ck_X10_185 ?_
        refine pz_sub [0, 2] rfl ?_
        exact tX10_readWord_74 hC hK hk12 hf
      · refine pz_lload_n hC dX10_readWord_48 1 rfl ?_
        refine pz_ldc2 hC dX10_readWord_49 ck_X10_243 ?_
        refine pz_lmul hC dX10_readWord_52 ?_
        refine pz_aload_n hC dX10_readWord_53 0 rfl ?_
        refine pz_getR hC dX10_readWord_54 fa_X10_38 hf (fun v7 hf => ?_)
        refine pz_aload_n hC dX10_readWord_57 0 rfl ?_
        refine pz_getI hC dX10_readWord_58 fa_X10_222 hf (fun v8 hf => ?_)
        refine pz_iald hC dX10_readWord_61 hf (fun v9 hf => ?_)
        refine pz_i2l hC dX10_readWord_62 ?_
        refine pz_ladd hC dX10_readWord_63 ?_
        refine pz_ldc2 hC dX10_readWord_64 ck_X10_245 ?_
        refine pz_lsub hC dX10_readWord_67 ?_
        refine pz_goto hC dX10_readWord_68 ?_
        refine pz_sub [0, 2] rfl ?_
        exact tX10_readWord_74 hC hK hk12 hf
def fX10_readWord_12 : Nat → pz_H → Nat → Int64 → Int32 → Option (Int64 × pz_H)
  | 0, _, _, _, _ => none
  | n + 1, f, l0, l1, l3 => fX10_readWord_12b (fX10_readWord_12 n) f l0 l1 l3
theorem tX10_readWord_12 {G : pz_G} {C : pz_C} {r : (Int64 × pz_H)} (hC : pz_OK G C cX10_readWord 4 RX10) (hK : pz_K C (some .long) 1 22 0 0) : ∀ (N : Nat) (f : pz_H) (l0 : Nat) (l1 : Int64) (l3 : Int32), fX10_readWord_12 N f l0 l1 l3 = some r → pz_W G C 4 12 [(0, .ref l0), (1, .long l1), (3, .int l3)] [] f 0 0 (pz_Q G C (some (.long r.1)) r.2 0 0) := by
  intro N
  induction N with
  | zero => intro f l0 l1 l3 hf; cases hf
  | succ N ih => intro f l0 l1 l3 hf; exact tX10_readWord_12b hC hK (fun f l0 l1 l3 hf => ih f l0 l1 l3 hf) hf
def fnX10_readWord (f : pz_H) (a0 : Nat) : Option (Int64 × pz_H) :=
  (pz_is f a0 9).bind fun _ =>
  (pz_gI f a0 9 16).bind fun v1 =>
  (pz_sV f a0 9 19 (.int v1)).bind fun f2 =>
  fX10_readWord_12 pz_F f2 a0 ((0 : Int64)) ((0 : Int32))
theorem mX10_readWord {l : Launch} {G : pz_G} {f : pz_H} {a0 : Nat} {r : (Int64 × pz_H)} (hf : fnX10_readWord f a0 = some r) : pz_Met l G yX10_readWord cX10_readWord 4 (some .long) 1 22 0 0 [.ref a0] f (some (.long r.1)) r.2 ∧ pz_is f a0 9 = some () := by
  unfold fnX10_readWord at hf
  obtain ⟨_, h0, hf⟩ := pz_bd hf
  refine ⟨pz_enter (by decide +kernel) (Nat.le_of_ble_eq_true rfl) (fun C hl hC hK hnm => ?_), h0⟩
  subst hl
  refine pz_sub (lv' := [(0, .ref a0)]) [0] rfl ?_
  refine pz_lconst (v := 0) hC dX10_readWord_0 (by decide) ?_
  refine pz_lstore_n hC dX10_readWord_1 (by decide) rfl ?_
  refine pz_iconst (v := (0 : Int32)) hC dX10_readWord_2 (by decide) ?_
  refine pz_istore_n hC dX10_readWord_3 (by decide) rfl ?_
  refine pz_aload_n hC dX10_readWord_4 2 rfl ?_
  refine pz_aload_n hC dX10_readWord_5 2 rfl ?_
  refine pz_getI hC dX10_readWord_6 fa_X10_222 hf (fun v1 hf => ?_)
  refine pz_putV hC dX10_readWord_9 fp_X10_234 rfl rfl hf (fun f2 hf => ?_)
  refine pz_sub [2, 1, 0] rfl ?_
  exact tX10_readWord_12 hC hK _ _ _ _ _ hf
def fnX10_ends (f : pz_H) (a0 : Nat) : Option (Int32 × pz_H) :=
  (pz_is f a0 9).bind fun _ =>
  (fnX10_here f a0).bind fun x1 =>
  if x1.1 = (59 : Int32) then (pz_gI x1.2 a0 9 16).bind fun v2 =>
  (pz_sV x1.2 a0 9 16 (.int (v2 + (1 : Int32)))).bind fun f3 =>
  (pz_b ((1 : Int32))).bind fun x => some (x, f3) else
  (pz_gI x1.2 a0 9 16).bind fun v4 =>
  (fnX10_fails x1.2 a0 ((1 : Int32)) v4).bind fun x5 =>
  (pz_b x5.1).bind fun x => some (x, x5.2)
theorem mX10_ends {l : Launch} {G : pz_G} {f : pz_H} {a0 : Nat} {r : (Int32 × pz_H)} (hf : fnX10_ends f a0 = some r) : pz_Met l G yX10_ends cX10_ends 1 (some .boolean) 1 22 0 0 [.ref a0] f (some (.int r.1)) r.2 ∧ pz_is f a0 9 = some () := by
  unfold fnX10_ends at hf
  obtain ⟨_, h0, hf⟩ := pz_bd hf
  refine ⟨pz_enter (by decide +kernel) (Nat.le_of_ble_eq_true rfl) (fun C hl hC hK hnm => ?_), h0⟩
  subst hl
  refine pz_sub (lv' := [(0, .ref a0)]) [0] rfl ?_
  refine pz_aload_n hC dX10_ends_0 0 rfl ?_
  refine pz_Viw (As := []) hC hK dX10_ends_1 py_X10_here pv_X10_here lk_X10_228 hf (fun _ h => mX10_here h) rfl rfl (Nat.le_of_ble_eq_true rfl) ⟨by decide, by decide⟩ ⟨by decide, by decide⟩ (fun x1 hf => ?_)
  refine pz_bipush (v := (59 : Int32)) hC dX10_ends_4 (by decide) ?_
  refine pz_icmp_eq hC dX10_ends_6 hf (fun _ hf => ?_) (fun _ hf => ?_)
  · refine pz_aload_n hC dX10_ends_19 0 rfl ?_
    refine pz_dup hC dX10_ends_20 rfl ?_
    refine pz_getI hC dX10_ends_21 fa_X10_222 hf (fun v2 hf => ?_)
    refine pz_iconst (v := (1 : Int32)) hC dX10_ends_24 (by decide) ?_
    refine pz_iadd hC dX10_ends_25 ?_
    refine pz_putV hC dX10_ends_26 fp_X10_222 rfl rfl hf (fun f3 hf => ?_)
    refine pz_iconst (v := (1 : Int32)) hC dX10_ends_29 (by decide) ?_
    exact pz_zretw hC hK dX10_ends_30 hf
  · refine pz_aload_n hC dX10_ends_9 0 rfl ?_
    refine pz_iconst (v := (1 : Int32)) hC dX10_ends_10 (by decide) ?_
    refine pz_aload_n hC dX10_ends_11 0 rfl ?_
    refine pz_getI hC dX10_ends_12 fa_X10_222 hf (fun v4 hf => ?_)
    refine pz_Viw (As := [.int (1 : Int32), .int v4]) hC hK dX10_ends_15 py_X10_fails pv_X10_fails lk_X10_231 hf (fun _ h => mX10_fails h) rfl rfl (Nat.le_of_ble_eq_true rfl) ⟨by decide, by decide⟩ ⟨by decide, by decide⟩ (fun x5 hf => ?_)
    exact pz_zretw hC hK dX10_ends_18 hf
def fX10_readServe_52 (f : pz_H) : Option (Int32 × pz_H) :=
  (pz_b ((0 : Int32))).bind fun x => some (x, f)
theorem tX10_readServe_52 {G : pz_G} {C : pz_C} {f : pz_H} {r : (Int32 × pz_H)} (hC : pz_OK G C cX10_readServe 6 RX10) (hK : pz_K C (some .boolean) 3 66 0 0) (hf : fX10_readServe_52 f = some r) : pz_W G C 6 52 [] [] f 0 0 (pz_Q G C (some (.int r.1)) r.2 0 0) := by
  unfold fX10_readServe_52 at hf
  refine pz_iconst (v := (0 : Int32)) hC dX10_readServe_52 (by decide) ?_
  exact pz_zretw hC hK dX10_readServe_53 hf
def fX10_readServe_112 (f : pz_H) (l0 : Nat) (l1 : Int32) : Option (Int32 × pz_H) :=
  (fnX10_fails f l0 ((4 : Int32)) l1).bind fun x1 =>
  (pz_b x1.1).bind fun x => some (x, x1.2)
theorem tX10_readServe_112 {G : pz_G} {C : pz_C} {f : pz_H} {l0 : Nat} {l1 : Int32} {r : (Int32 × pz_H)} (hC : pz_OK G C cX10_readServe 6 RX10) (hK : pz_K C (some .boolean) 3 66 0 0) (hf : fX10_readServe_112 f l0 l1 = some r) : pz_W G C 6 112 [(0, .ref l0), (1, .int l1)] [] f 0 0 (pz_Q G C (some (.int r.1)) r.2 0 0) := by
  unfold fX10_readServe_112 at hf
  refine pz_aload_n hC dX10_readServe_112 0 rfl ?_
  refine pz_iconst (v := (4 : Int32)) hC dX10_readServe_113 (by decide) ?_
  refine pz_iload_n hC dX10_readServe_114 1 rfl ?_
  refine pz_Viw (As := [.int (4 : Int32), .int l1]) hC hK dX10_readServe_115 py_X10_fails pv_X10_fails lk_X10_231 hf (fun _ h => mX10_fails h) rfl rfl (Nat.le_of_ble_eq_true rfl) ⟨by decide, by decide⟩ ⟨by decide, by decide⟩ (fun x1 hf => ?_)
  exact pz_zretw hC hK dX10_readServe_118 hf
def fX10_readServe_148b (k127 : pz_H → Nat → Int32 → Int32 → Option (Int32 × pz_H)) (k148 : pz_H → Nat → Int32 → Int32 → Int32 → Option (Int32 × pz_H)) (f : pz_H) (l0 : Nat) (l2 : Int32) (l4 : Int32) (l5 : Int32) : Option (Int32 × pz_H) :=
  if (3 : Int32) ≤ l5 then k127 f l0 l2 ((l4 + (-1))) else
  (pz_gR f l0 9 1).bind fun v1 =>
  (fnX10_spanOf f l0 ((l4 - (1 : Int32))) l5).bind fun x2 =>
  (pz_tI f v1 0 ((((11 : Int32) + ((3 : Int32) * l4)) + l5)) x2).bind fun f3 =>
  k148 f3 l0 l2 l4 ((l5 + 1))
theorem tX10_readServe_148b {G : pz_G} {C : pz_C} {f : pz_H} {k127 : pz_H → Nat → Int32 → Int32 → Option (Int32 × pz_H)} {k148 : pz_H → Nat → Int32 → Int32 → Int32 → Option (Int32 × pz_H)} {l0 : Nat} {l2 : Int32} {l4 : Int32} {l5 : Int32} {r : (Int32 × pz_H)} (hC : pz_OK G C cX10_readServe 6 RX10) (hK : pz_K C (some .boolean) 3 66 0 0) (hk127 : ∀ (g : pz_H) (a0 : Nat) (a2 : Int32) (a4 : Int32), k127 g a0 a2 a4 = some r → pz_W G C 6 127 [(0, .ref a0), (2, .int a2), (4, .int a4)] [] g 0 0 (pz_Q G C (some (.int r.1)) r.2 0 0)) (hk148 : ∀ (g : pz_H) (a0 : Nat) (a2 : Int32) (a4 : Int32) (a5 : Int32), k148 g a0 a2 a4 a5 = some r → pz_W G C 6 148 [(0, .ref a0), (2, .int a2), (4, .int a4), (5, .int a5)] [] g 0 0 (pz_Q G C (some (.int r.1)) r.2 0 0)) (hf : fX10_readServe_148b k127 k148 f l0 l2 l4 l5 = some r) : pz_W G C 6 148 [(0, .ref l0), (2, .int l2), (4, .int l4), (5, .int l5)] [] f 0 0 (pz_Q G C (some (.int r.1)) r.2 0 0) := by
  unfold fX10_readServe_148b at hf
  refine pz_iload hC dX10_readServe_148 3 rfl ?_
  refine pz_iconst (v := (3 : Int32)) hC dX10_readServe_150 (by decide) ?_
  refine pz_icmp_ge hC dX10_readServe_151 hf (fun _ hf => ?_) (fun _ hf => ?_)
  · refine pz_iinc (v := (l4 + (-1))) hC dX10_readServe_185 2 rfl rfl (by decide) rfl ?_
    refine pz_goto hC dX10_readServe_188 ?_
    refine pz_sub [1, 2, 0] rfl ?_
    exact hk127 _ _ _ _ hf
  · refine pz_aload_n hC dX10_readServe_154 0 rfl ?_
    refine pz_getR hC dX10_readServe_155 fa_X10_7 hf (fun v1 hf => ?_)
    refine pz_bipush (v := (11 : Int32)) hC dX10_readServe_158 (by decide) ?_
    refine pz_iconst (v := (3 : Int32)) hC dX10_readServe_160 (by decide) ?_
    refine pz_iload hC dX10_readServe_161 2 rfl ?_
    refine pz_imul hC dX10_readServe_163 ?_
    refine pz_iadd hC dX10_readServe_164 ?_
    refine pz_iload hC dX10_readServe_165 3 rfl ?_
    refine pz_iadd hC dX10_readServe_167 ?_
    refine pz_aload_n hC dX10_readServe_168 0 rfl ?_
    refine pz_iload hC dX10_readServe_169 2 rfl ?_
    refine pz_iconst (v := (1 : Int32)) hC dX10_readServe_171 (by decide) ?_
    refine pz_isub hC dX10_readServe_172 ?_
    refine pz_iload hC dX10_readServe_173 3 rfl ?_
    refine pz_Vi (As := [.int (l4 - (1 : Int32)), .int l5]) hC hK dX10_readServe_175 py_X10_spanOf pv_X10_spanOf lk_X10_60 hf (fun _ h => mX10_spanOf h) rfl rfl (Nat.le_of_ble_eq_true rfl) ⟨by decide, by decide⟩ ⟨by decide, by decide⟩ (fun x2 hf => ?_)
    refine pz_iast hC dX10_readServe_178 hf (fun f3 hf => ?_)
    refine pz_iinc (v := (l5 + 1)) hC dX10_readServe_179 3 rfl rfl (by decide) rfl ?_
    refine pz_goto hC dX10_readServe_182 ?_
    refine pz_sub [1, 2, 3, 0] rfl ?_
    exact hk148 _ _ _ _ _ hf
def fX10_readServe_148 (k127 : pz_H → Nat → Int32 → Int32 → Option (Int32 × pz_H)) : Nat → pz_H → Nat → Int32 → Int32 → Int32 → Option (Int32 × pz_H)
  | 0, _, _, _, _, _ => none
  | n + 1, f, l0, l2, l4, l5 => fX10_readServe_148b k127 (fX10_readServe_148 k127 n) f l0 l2 l4 l5
theorem tX10_readServe_148 {G : pz_G} {C : pz_C} {k127 : pz_H → Nat → Int32 → Int32 → Option (Int32 × pz_H)} {r : (Int32 × pz_H)} (hC : pz_OK G C cX10_readServe 6 RX10) (hK : pz_K C (some .boolean) 3 66 0 0) (hk127 : ∀ (g : pz_H) (a0 : Nat) (a2 : Int32) (a4 : Int32), k127 g a0 a2 a4 = some r → pz_W G C 6 127 [(0, .ref a0), (2, .int a2), (4, .int a4)] [] g 0 0 (pz_Q G C (some (.int r.1)) r.2 0 0)) : ∀ (N : Nat) (f : pz_H) (l0 : Nat) (l2 : Int32) (l4 : Int32) (l5 : Int32), fX10_readServe_148 k127 N f l0 l2 l4 l5 = some r → pz_W G C 6 148 [(0, .ref l0), (2, .int l2), (4, .int l4), (5, .int l5)] [] f 0 0 (pz_Q G C (some (.int r.1)) r.2 0 0) := by
  intro N
  induction N with
  | zero => intro f l0 l2 l4 l5 hf; cases hf
  | succ N ih => intro f l0 l2 l4 l5 hf; exact tX10_readServe_148b hC hK hk127 (fun f l0 l2 l4 l5 hf => ih f l0 l2 l4 l5 hf) hf
def fX10_readServe_194b (k194 : pz_H → Nat → Int32 → Int32 → Option (Int32 × pz_H)) (f : pz_H) (l0 : Nat) (l4 : Int32) (l5 : Int32) : Option (Int32 × pz_H) :=
  if (3 : Int32) ≤ l5 then (pz_gR f l0 9 1).bind fun v1 =>
  (pz_aI f v1 0 ((3 : Int32))).bind fun v2 =>
  (pz_tI f v1 0 ((3 : Int32)) ((v2 + (1 : Int32)))).bind fun f3 =>
  (pz_b ((1 : Int32))).bind fun x => some (x, f3) else
  (pz_gR f l0 9 1).bind fun v4 =>
  (pz_gR f l0 9 21).bind fun v5 =>
  (pz_aI f v5 0 l5).bind fun v6 =>
  (pz_tI f v4 0 ((((11 : Int32) + ((3 : Int32) * l4)) + l5)) v6).bind fun f7 =>
  k194 f7 l0 l4 ((l5 + 1))
theorem tX10_readServe_194b {G : pz_G} {C : pz_C} {f : pz_H} {k194 : pz_H → Nat → Int32 → Int32 → Option (Int32 × pz_H)} {l0 : Nat} {l4 : Int32} {l5 : Int32} {r : (Int32 × pz_H)} (hC : pz_OK G C cX10_readServe 6 RX10) (hK : pz_K C (some .boolean) 3 66 0 0) (hk194 : ∀ (g : pz_H) (a0 : Nat) (a4 : Int32) (a5 : Int32), k194 g a0 a4 a5 = some r → pz_W G C 6 194 [(0, .ref a0), (4, .int a4), (5, .int a5)] [] g 0 0 (pz_Q G C (some (.int r.1)) r.2 0 0)) (hf : fX10_readServe_194b k194 f l0 l4 l5 = some r) : pz_W G C 6 194 [(0, .ref l0), (4, .int l4), (5, .int l5)] [] f 0 0 (pz_Q G C (some (.int r.1)) r.2 0 0) := by
  unfold fX10_readServe_194b at hf
  refine pz_iload hC dX10_readServe_194 2 rfl ?_
  refine pz_iconst (v := (3 : Int32)) hC dX10_readServe_196 (by decide) ?_
  refine pz_icmp_ge hC dX10_readServe_197 hf (fun _ hf => ?_) (fun _ hf => ?_)
  · refine pz_aload_n hC dX10_readServe_228 0 rfl ?_
    refine pz_getR hC dX10_readServe_229 fa_X10_7 hf (fun v1 hf => ?_)
    refine pz_iconst (v := (3 : Int32)) hC dX10_readServe_232 (by decide) ?_
    refine pz_dup2 hC dX10_readServe_233 rfl rfl ?_
    refine pz_iald hC dX10_readServe_234 hf (fun v2 hf => ?_)
    refine pz_iconst (v := (1 : Int32)) hC dX10_readServe_235 (by decide) ?_
    refine pz_iadd hC dX10_readServe_236 ?_
    refine pz_iast hC dX10_readServe_237 hf (fun f3 hf => ?_)
    refine pz_iconst (v := (1 : Int32)) hC dX10_readServe_238 (by decide) ?_
    exact pz_zretw hC hK dX10_readServe_239 hf
  · refine pz_aload_n hC dX10_readServe_200 0 rfl ?_
    refine pz_getR hC dX10_readServe_201 fa_X10_7 hf (fun v4 hf => ?_)
    refine pz_bipush (v := (11 : Int32)) hC dX10_readServe_204 (by decide) ?_
    refine pz_iconst (v := (3 : Int32)) hC dX10_readServe_206 (by decide) ?_
    refine pz_iload hC dX10_readServe_207 1 rfl ?_
    refine pz_imul hC dX10_readServe_209 ?_
    refine pz_iadd hC dX10_readServe_210 ?_
    refine pz_iload hC dX10_readServe_211 2 rfl ?_
    refine pz_iadd hC dX10_readServe_213 ?_
    refine pz_aload_n hC dX10_readServe_214 0 rfl ?_
    refine pz_getR hC dX10_readServe_215 fa_X10_41 hf (fun v5 hf => ?_)
    refine pz_iload hC dX10_readServe_218 2 rfl ?_
    refine pz_iald hC dX10_readServe_220 hf (fun v6 hf => ?_)
    refine pz_iast hC dX10_readServe_221 hf (fun f7 hf => ?_)
    refine pz_iinc (v := (l5 + 1)) hC dX10_readServe_222 2 rfl rfl (by decide) rfl ?_
    refine pz_goto hC dX10_readServe_225 ?_
    refine pz_sub [1, 2, 0] rfl ?_
    exact hk194 _ _ _ _ hf
def fX10_readServe_194 : Nat → pz_H → Nat → Int32 → Int32 → Option (Int32 × pz_H)
  | 0, _, _, _, _ => none
  | n + 1, f, l0, l4, l5 => fX10_readServe_194b (fX10_readServe_194 n) f l0 l4 l5
theorem tX10_readServe_194 {G : pz_G} {C : pz_C} {r : (Int32 × pz_H)} (hC : pz_OK G C cX10_readServe 6 RX10) (hK : pz_K C (some .boolean) 3 66 0 0) : ∀ (N : Nat) (f : pz_H) (l0 : Nat) (l4 : Int32) (l5 : Int32), fX10_readServe_194 N f l0 l4 l5 = some r → pz_W G C 6 194 [(0, .ref l0), (4, .int l4), (5, .int l5)] [] f 0 0 (pz_Q G C (some (.int r.1)) r.2 0 0) := by
  intro N
  induction N with
  | zero => intro f l0 l4 l5 hf; cases hf
  | succ N ih => intro f l0 l4 l5 hf; exact tX10_readServe_194b hC hK (fun f l0 l4 l5 hf => ih f l0 l4 l5 hf) hf
def fX10_readServe_191 (f : pz_H) (l0 : Nat) (l4 : Int32) : Option (Int32 × pz_H) :=
  fX10_readServe_194 pz_F f l0 l4 ((0 : Int32))
theorem tX10_readServe_191 {G : pz_G} {C : pz_C} {f : pz_H} {l0 : Nat} {l4 : Int32} {r : (Int32 × pz_H)} (hC : pz_OK G C cX10_readServe 6 RX10) (hK : pz_K C (some .boolean) 3 66 0 0) (hf : fX10_readServe_191 f l0 l4 = some r) : pz_W G C 6 191 [(0, .ref l0), (4, .int l4)] [] f 0 0 (pz_Q G C (some (.int r.1)) r.2 0 0) := by
  unfold fX10_readServe_191 at hf
  refine pz_iconst (v := (0 : Int32)) hC dX10_readServe_191 (by decide) ?_
  refine pz_istore hC dX10_readServe_192 (by decide) rfl ?_
  refine pz_sub [1, 2, 0] rfl ?_
  exact tX10_readServe_194 hC hK _ _ _ _ _ hf
def fX10_readServe_127b (k127 : pz_H → Nat → Int32 → Int32 → Option (Int32 × pz_H)) (f : pz_H) (l0 : Nat) (l2 : Int32) (l4 : Int32) : Option (Int32 × pz_H) :=
  if l4 ≤ 0 then fX10_readServe_191 f l0 l4 else
  (fnX10_spanOf f l0 ((l4 - (1 : Int32))) ((0 : Int32))).bind fun x1 =>
  if x1 ≤ l2 then fX10_readServe_191 f l0 l4 else
  fX10_readServe_148 k127 pz_F f l0 l2 l4 ((0 : Int32))
theorem tX10_readServe_127b {G : pz_G} {C : pz_C} {f : pz_H} {k127 : pz_H → Nat → Int32 → Int32 → Option (Int32 × pz_H)} {l0 : Nat} {l2 : Int32} {l4 : Int32} {r : (Int32 × pz_H)} (hC : pz_OK G C cX10_readServe 6 RX10) (hK : pz_K C (some .boolean) 3 66 0 0) (hk127 : ∀ (g : pz_H) (a0 : Nat) (a2 : Int32) (a4 : Int32), k127 g a0 a2 a4 = some r → pz_W G C 6 127 [(0, .ref a0), (2, .int a2), (4, .int a4)] [] g 0 0 (pz_Q G C (some (.int r.1)) r.2 0 0)) (hf : fX10_readServe_127b k127 f l0 l2 l4 = some r) : pz_W G C 6 127 [(0, .ref l0), (2, .int l2), (4, .int l4)] [] f 0 0 (pz_Q G C (some (.int r.1)) r.2 0 0) := by
  unfold fX10_readServe_127b at hf
  refine pz_iload hC dX10_readServe_127 2 rfl ?_
  refine pz_if_le hC dX10_readServe_129 hf (fun _ hf => ?_) (fun _ hf => ?_)
  · refine pz_sub [0, 2] rfl ?_
    exact tX10_readServe_191 hC hK hf
  · refine pz_aload_n hC dX10_readServe_132 0 rfl ?_
    refine pz_iload hC dX10_readServe_133 2 rfl ?_
    refine pz_iconst (v := (1 : Int32)) hC dX10_readServe_135 (by decide) ?_
    refine pz_isub hC dX10_readServe_136 ?_
    refine pz_iconst (v := (0 : Int32)) hC dX10_readServe_137 (by decide) ?_
    refine pz_Vi (As := [.int (l4 - (1 : Int32)), .int (0 : Int32)]) hC hK dX10_readServe_138 py_X10_spanOf pv_X10_spanOf lk_X10_60 hf (fun _ h => mX10_spanOf h) rfl rfl (Nat.le_of_ble_eq_true rfl) ⟨by decide, by decide⟩ ⟨by decide, by decide⟩ (fun x1 hf => ?_)
    refine pz_iload_n hC dX10_readServe_141 1 rfl ?_
    refine pz_icmp_le hC dX10_readServe_142 hf (fun _ hf => ?_) (fun _ hf => ?_)
    · refine pz_sub [0, 2] rfl ?_
      exact tX10_readServe_191 hC hK hf
    · refine pz_iconst (v := (0 : Int32)) hC dX10_readServe_145 (by decide) ?_
      refine pz_istore hC dX10_readServe_146 (by decide) rfl ?_
      refine pz_sub [1, 2, 3, 0] rfl ?_
      exact tX10_readServe_148 hC hK hk127 _ _ _ _ _ _ hf
def fX10_readServe_127 : Nat → pz_H → Nat → Int32 → Int32 → Option (Int32 × pz_H)
  | 0, _, _, _, _ => none
  | n + 1, f, l0, l2, l4 => fX10_readServe_127b (fX10_readServe_127 n) f l0 l2 l4
theorem tX10_readServe_127 {G : pz_G} {C : pz_C} {r : (Int32 × pz_H)} (hC : pz_OK G C cX10_readServe 6 RX10) (hK : pz_K C (some .boolean) 3 66 0 0) : ∀ (N : Nat) (f : pz_H) (l0 : Nat) (l2 : Int32) (l4 : Int32), fX10_readServe_127 N f l0 l2 l4 = some r → pz_W G C 6 127 [(0, .ref l0), (2, .int l2), (4, .int l4)] [] f 0 0 (pz_Q G C (some (.int r.1)) r.2 0 0) := by
  intro N
  induction N with
  | zero => intro f l0 l2 l4 hf; cases hf
  | succ N ih => intro f l0 l2 l4 hf; exact tX10_readServe_127b hC hK (fun f l0 l2 l4 hf => ih f l0 l2 l4 hf) hf
def fX10_readServe_119 (f : pz_H) (l0 : Nat) (l2 : Int32) : Option (Int32 × pz_H) :=
  (pz_gR f l0 9 1).bind fun v1 =>
  (pz_aI f v1 0 ((3 : Int32))).bind fun v2 =>
  fX10_readServe_127 pz_F f l0 l2 v2
theorem tX10_readServe_119 {G : pz_G} {C : pz_C} {f : pz_H} {l0 : Nat} {l2 : Int32} {r : (Int32 × pz_H)} (hC : pz_OK G C cX10_readServe 6 RX10) (hK : pz_K C (some .boolean) 3 66 0 0) (hf : fX10_readServe_119 f l0 l2 = some r) : pz_W G C 6 119 [(0, .ref l0), (2, .int l2)] [] f 0 0 (pz_Q G C (some (.int r.1)) r.2 0 0) := by
  unfold fX10_readServe_119 at hf
  refine pz_aload_n hC dX10_readServe_119 0 rfl ?_
  refine pz_getR hC dX10_readServe_120 fa_X10_7 hf (fun v1 hf => ?_)
  refine pz_iconst (v := (3 : Int32)) hC dX10_readServe_123 (by decide) ?_
  refine pz_iald hC dX10_readServe_124 hf (fun v2 hf => ?_)
  refine pz_istore hC dX10_readServe_125 (by decide) rfl ?_
  refine pz_sub [1, 2, 0] rfl ?_
  exact tX10_readServe_127 hC hK _ _ _ _ _ hf
def fnX10_readServe (f : pz_H) (a0 : Nat) (p1 : Int32) : Option (Int32 × pz_H) :=
  (pz_is f a0 9).bind fun _ =>
  (pz_gR f a0 9 1).bind fun v1 =>
  (pz_aI f v1 0 ((3 : Int32))).bind fun v2 =>
  if v2 = (8 : Int32) then (fnX10_fails f a0 ((3 : Int32)) p1).bind fun x18 =>
  (pz_b x18.1).bind fun x => some (x, x18.2) else
  (fnX10_month f a0 ((0 : Int32))).bind fun x3 =>
  if x3.1 = 0 then fX10_readServe_52 x3.2 else
  (fnX10_month x3.2 a0 ((1 : Int32))).bind fun x4 =>
  if x4.1 = 0 then fX10_readServe_52 x4.2 else
  (fnX10_number x4.2 a0 ((2 : Int32)) ((0 : Int32)) ((1000000 : Int32))).bind fun x5 =>
  if x5.1 = 0 then fX10_readServe_52 x5.2 else
  (fnX10_ends x5.2 a0).bind fun x6 =>
  if x6.1 = 0 then fX10_readServe_52 x6.2 else
  (pz_gR x6.2 a0 9 21).bind fun v7 =>
  (pz_aI x6.2 v7 0 ((0 : Int32))).bind fun v8 =>
  (pz_gR x6.2 a0 9 21).bind fun v9 =>
  (pz_aI x6.2 v9 0 ((1 : Int32))).bind fun v10 =>
  if v10 ≤ v8 then fX10_readServe_112 x6.2 a0 p1 else
  (pz_gR x6.2 a0 9 1).bind fun v11 =>
  (pz_aI x6.2 v11 0 ((0 : Int32))).bind fun v12 =>
  if v8 < v12 then fX10_readServe_112 x6.2 a0 p1 else
  (fnX10_serviceIn x6.2 a0 v8 v10).bind fun x13 =>
  if 0 < x13 then fX10_readServe_112 x6.2 a0 p1 else
  (pz_gR x6.2 a0 9 1).bind fun v14 =>
  (pz_aI x6.2 v14 0 ((1 : Int32))).bind fun v15 =>
  if v15 = ((-1) : Int32) then fX10_readServe_119 x6.2 a0 v8 else
  (pz_gR x6.2 a0 9 1).bind fun v16 =>
  (pz_aI x6.2 v16 0 ((1 : Int32))).bind fun v17 =>
  if v10 ≤ v17 then fX10_readServe_119 x6.2 a0 v8 else
  fX10_readServe_112 x6.2 a0 p1
theorem mX10_readServe {l : Launch} {G : pz_G} {f : pz_H} {a0 : Nat} {p1 : Int32} {r : (Int32 × pz_H)} (hf : fnX10_readServe f a0 p1 = some r) : pz_Met l G yX10_readServe cX10_readServe 6 (some .boolean) 3 66 0 0 [.ref a0, .int p1] f (some (.int r.1)) r.2 ∧ pz_is f a0 9 = some () := by
  unfold fnX10_readServe at hf
  obtain ⟨_, h0, hf⟩ := pz_bd hf
  refine ⟨pz_enter (by decide +kernel) (Nat.le_of_ble_eq_true rfl) (fun C hl hC hK hnm => ?_), h0⟩
  subst hl
  refine pz_sub (lv' := [(0, .ref a0), (1, .int p1)]) [0, 1] rfl ?_
  refine pz_aload_n hC dX10_readServe_0 0 rfl ?_
  refine pz_getR hC dX10_readServe_1 fa_X10_7 hf (fun v1 hf => ?_)
  refine pz_iconst (v := (3 : Int32)) hC dX10_readServe_4 (by decide) ?_
  refine pz_iald hC dX10_readServe_5 hf (fun v2 hf => ?_)
  refine pz_bipush (v := (8 : Int32)) hC dX10_readServe_6 (by decide) ?_
  refine pz_icmp_ne hC dX10_readServe_8 hf (fun _ hf => ?_) (fun _ hf => ?_)
  · refine pz_aload_n hC dX10_readServe_18 0 rfl ?_
    refine pz_iconst (v := (0 : Int32)) hC dX10_readServe_19 (by decide) ?_
    refine pz_Viw (As := [.int (0 : Int32)]) hC hK dX10_readServe_20 py_X10_month pv_X10_month lk_X10_247 hf (fun _ h => mX10_month h) rfl rfl (Nat.le_of_ble_eq_true rfl) ⟨by decide, by decide⟩ ⟨by decide, by decide⟩ (fun x3 hf => ?_)
    refine pz_if_eq hC dX10_readServe_23 hf (fun _ hf => ?_) (fun _ hf => ?_)
    · refine pz_sub [] rfl ?_
      exact tX10_readServe_52 hC hK hf
    · refine pz_aload_n hC dX10_readServe_26 0 rfl ?_
      refine pz_iconst (v := (1 : Int32)) hC dX10_readServe_27 (by decide) ?_
      refine pz_Viw (As := [.int (1 : Int32)]) hC hK dX10_readServe_28 py_X10_month pv_X10_month lk_X10_247 hf (fun _ h => mX10_month h) rfl rfl (Nat.le_of_ble_eq_true rfl) ⟨by decide, by decide⟩ ⟨by decide, by decide⟩ (fun x4 hf => ?_)
      refine pz_if_eq hC dX10_readServe_31 hf (fun _ hf => ?_) (fun _ hf => ?_)
      · refine pz_sub [] rfl ?_
        exact tX10_readServe_52 hC hK hf
      · refine pz_aload_n hC dX10_readServe_34 0 rfl ?_
        refine pz_iconst (v := (2 : Int32)) hC dX10_readServe_35 (by decide) ?_
        refine pz_iconst (v := (0 : Int32)) hC dX10_readServe_36 (by decide) ?_
        refine pz_ldc hC dX10_readServe_37 ck_X10_250 ?_
        refine pz_Viw (As := [.int (2 : Int32), .int (0 : Int32), .int (1000000 : Int32)]) hC hK dX10_readServe_39 py_X10_number pv_X10_number lk_X10_240 hf (fun _ h => mX10_number h) rfl rfl (Nat.le_of_ble_eq_true rfl) ⟨by decide, by decide⟩ ⟨by decide, by decide⟩ (fun x5 hf => ?_)
        refine pz_if_eq hC dX10_readServe_42 hf (fun _ hf => ?_) (fun _ hf => ?_)
        · refine pz_sub [] rfl ?_
          exact tX10_readServe_52 hC hK hf
        · refine pz_aload_n hC dX10_readServe_45 0 rfl ?_
          refine pz_Viw (As := []) hC hK dX10_readServe_46 py_X10_ends pv_X10_ends lk_X10_251 hf (fun _ h => mX10_ends h) rfl rfl (Nat.le_of_ble_eq_true rfl) ⟨by decide, by decide⟩ ⟨by decide, by decide⟩ (fun x6 hf => ?_)
          refine pz_if_ne hC dX10_readServe_49 hf (fun _ hf => ?_) (fun _ hf => ?_)
          · refine pz_aload_n hC dX10_readServe_54 0 rfl ?_
            refine pz_getR hC dX10_readServe_55 fa_X10_41 hf (fun v7 hf => ?_)
            refine pz_iconst (v := (0 : Int32)) hC dX10_readServe_58 (by decide) ?_
            refine pz_iald hC dX10_readServe_59 hf (fun v8 hf => ?_)
            refine pz_istore_n hC dX10_readServe_60 (by decide) rfl ?_
            refine pz_aload_n hC dX10_readServe_61 1 rfl ?_
            refine pz_getR hC dX10_readServe_62 fa_X10_41 hf (fun v9 hf => ?_)
            refine pz_iconst (v := (1 : Int32)) hC dX10_readServe_65 (by decide) ?_
            refine pz_iald hC dX10_readServe_66 hf (fun v10 hf => ?_)
            refine pz_istore_n hC dX10_readServe_67 (by decide) rfl ?_
            refine pz_iload_n hC dX10_readServe_68 0 rfl ?_
            refine pz_iload_n hC dX10_readServe_69 1 rfl ?_
            refine pz_icmp_le hC dX10_readServe_70 hf (fun _ hf => ?_) (fun _ hf => ?_)
            · refine pz_sub [2, 3] rfl ?_
              exact tX10_readServe_112 hC hK hf
            · refine pz_iload_n hC dX10_readServe_73 1 rfl ?_
              refine pz_aload_n hC dX10_readServe_74 2 rfl ?_
              refine pz_getR hC dX10_readServe_75 fa_X10_7 hf (fun v11 hf => ?_)
              refine pz_iconst (v := (0 : Int32)) hC dX10_readServe_78 (by decide) ?_
              refine pz_iald hC dX10_readServe_79 hf (fun v12 hf => ?_)
              refine pz_icmp_lt hC dX10_readServe_80 hf (fun _ hf => ?_) (fun _ hf => ?_)
              · refine pz_sub [2, 3] rfl ?_
                exact tX10_readServe_112 hC hK hf
              · refine pz_aload_n hC dX10_readServe_83 2 rfl ?_
                refine pz_iload_n hC dX10_readServe_84 1 rfl ?_
                refine pz_iload_n hC dX10_readServe_85 0 rfl ?_
                refine pz_Vi (As := [.int v8, .int v10]) hC hK dX10_readServe_86 py_X10_serviceIn pv_X10_serviceIn lk_X10_63 hf (fun _ h => mX10_serviceIn h) rfl rfl (Nat.le_of_ble_eq_true rfl) ⟨by decide, by decide⟩ ⟨by decide, by decide⟩ (fun x13 hf => ?_)
                refine pz_if_gt hC dX10_readServe_89 hf (fun _ hf => ?_) (fun _ hf => ?_)
                · refine pz_sub [2, 3] rfl ?_
                  exact tX10_readServe_112 hC hK hf
                · refine pz_aload_n hC dX10_readServe_92 2 rfl ?_
                  refine pz_getR hC dX10_readServe_93 fa_X10_7 hf (fun v14 hf => ?_)
                  refine pz_iconst (v := (1 : Int32)) hC dX10_readServe_96 (by decide) ?_
                  refine pz_iald hC dX10_readServe_97 hf (fun v15 hf => ?_)
                  refine pz_iconst (v := ((-1) : Int32)) hC dX10_readServe_98 (by decide) ?_
                  refine pz_icmp_eq hC dX10_readServe_99 hf (fun _ hf => ?_) (fun _ hf => ?_)
                  · refine pz_sub [2, 1] rfl ?_
                    exact tX10_readServe_119 hC hK hf
                  · refine pz_iload_n hC dX10_readServe_102 0 rfl ?_
                    refine pz_aload_n hC dX10_readServe_103 2 rfl ?_
                    refine pz_getR hC dX10_readServe_104 fa_X10_7 hf (fun v16 hf => ?_)
                    refine pz_iconst (v := (1 : Int32)) hC dX10_readServe_107 (by decide) ?_
                    refine pz_iald hC dX10_readServe_108 hf (fun v17 hf => ?_)
                    refine pz_icmp_le hC dX10_readServe_109 hf (fun _ hf => ?_) (fun _ hf => ?_)
                    · refine pz_sub [2, 1] rfl ?_
                      exact tX10_readServe_119 hC hK hf
                    · refine pz_sub [2, 3] rfl ?_
                      exact tX10_readServe_112 hC hK hf
          · refine pz_sub [] rfl ?_
            exact tX10_readServe_52 hC hK hf
  · refine pz_aload_n hC dX10_readServe_11 0 rfl ?_
    refine pz_iconst (v := (3 : Int32)) hC dX10_readServe_12 (by decide) ?_
    refine pz_iload_n hC dX10_readServe_13 1 rfl ?_
    refine pz_Viw (As := [.int (3 : Int32), .int p1]) hC hK dX10_readServe_14 py_X10_fails pv_X10_fails lk_X10_231 hf (fun _ h => mX10_fails h) rfl rfl (Nat.le_of_ble_eq_true rfl) ⟨by decide, by decide⟩ ⟨by decide, by decide⟩ (fun x18 hf => ?_)
    exact pz_zretw hC hK dX10_readServe_17 hf
def fX10_readWed_42 (f : pz_H) : Option (Int32 × pz_H) :=
  (pz_b ((0 : Int32))).bind fun x => some (x, f)
theorem tX10_readWed_42 {G : pz_G} {C : pz_C} {f : pz_H} {r : (Int32 × pz_H)} (hC : pz_OK G C cX10_readWed 5 RX10) (hK : pz_K C (some .boolean) 3 66 0 0) (hf : fX10_readWed_42 f = some r) : pz_W G C 5 42 [] [] f 0 0 (pz_Q G C (some (.int r.1)) r.2 0 0) := by
  unfold fX10_readWed_42 at hf
  refine pz_iconst (v := (0 : Int32)) hC dX10_readWed_42 (by decide) ?_
  exact pz_zretw hC hK dX10_readWed_43 hf
def fX10_readWed_97 (f : pz_H) (l0 : Nat) (l1 : Int32) : Option (Int32 × pz_H) :=
  (fnX10_fails f l0 ((4 : Int32)) l1).bind fun x1 =>
  (pz_b x1.1).bind fun x => some (x, x1.2)
theorem tX10_readWed_97 {G : pz_G} {C : pz_C} {f : pz_H} {l0 : Nat} {l1 : Int32} {r : (Int32 × pz_H)} (hC : pz_OK G C cX10_readWed 5 RX10) (hK : pz_K C (some .boolean) 3 66 0 0) (hf : fX10_readWed_97 f l0 l1 = some r) : pz_W G C 5 97 [(0, .ref l0), (1, .int l1)] [] f 0 0 (pz_Q G C (some (.int r.1)) r.2 0 0) := by
  unfold fX10_readWed_97 at hf
  refine pz_aload_n hC dX10_readWed_97 0 rfl ?_
  refine pz_iconst (v := (4 : Int32)) hC dX10_readWed_98 (by decide) ?_
  refine pz_iload_n hC dX10_readWed_99 1 rfl ?_
  refine pz_Viw (As := [.int (4 : Int32), .int l1]) hC hK dX10_readWed_100 py_X10_fails pv_X10_fails lk_X10_231 hf (fun _ h => mX10_fails h) rfl rfl (Nat.le_of_ble_eq_true rfl) ⟨by decide, by decide⟩ ⟨by decide, by decide⟩ (fun x1 hf => ?_)
  exact pz_zretw hC hK dX10_readWed_103 hf
def fX10_readWed_162 (k107 : pz_H → Nat → Int32 → Int32 → Option (Int32 × pz_H)) (f : pz_H) (l0 : Nat) (l2 : Int32) (l4 : Int32) (s0 : Int32) (s1 : Int32) (s2 : Nat) : Option (Int32 × pz_H) :=
  (pz_tI f s2 0 s1 s0).bind fun f1 =>
  k107 f1 l0 l2 ((l4 + 1))
theorem tX10_readWed_162 {G : pz_G} {C : pz_C} {f : pz_H} {k107 : pz_H → Nat → Int32 → Int32 → Option (Int32 × pz_H)} {l0 : Nat} {l2 : Int32} {l4 : Int32} {s0 : Int32} {s1 : Int32} {s2 : Nat} {r : (Int32 × pz_H)} (hC : pz_OK G C cX10_readWed 5 RX10) (hK : pz_K C (some .boolean) 3 66 0 0) (hk107 : ∀ (g : pz_H) (a0 : Nat) (a2 : Int32) (a4 : Int32), k107 g a0 a2 a4 = some r → pz_W G C 5 107 [(0, .ref a0), (2, .int a2), (4, .int a4)] [] g 0 0 (pz_Q G C (some (.int r.1)) r.2 0 0)) (hf : fX10_readWed_162 k107 f l0 l2 l4 s0 s1 s2 = some r) : pz_W G C 5 162 [(0, .ref l0), (2, .int l2), (4, .int l4)] [.int s0, .int s1, .ref s2] f 0 0 (pz_Q G C (some (.int r.1)) r.2 0 0) := by
  unfold fX10_readWed_162 at hf
  refine pz_iast hC dX10_readWed_162 hf (fun f1 hf => ?_)
  refine pz_iinc (v := (l4 + 1)) hC dX10_readWed_163 2 rfl rfl (by decide) rfl ?_
  refine pz_goto hC dX10_readWed_166 ?_
  refine pz_sub [1, 2, 0] rfl ?_
  exact hk107 _ _ _ _ hf
def fX10_readWed_157 (k107 : pz_H → Nat → Int32 → Int32 → Option (Int32 × pz_H)) (f : pz_H) (l0 : Nat) (l2 : Int32) (l4 : Int32) (s0 : Int32) (s1 : Nat) : Option (Int32 × pz_H) :=
  fX10_readWed_162 k107 f l0 l2 l4 (((-1) : Int32)) s0 s1
theorem tX10_readWed_157 {G : pz_G} {C : pz_C} {f : pz_H} {k107 : pz_H → Nat → Int32 → Int32 → Option (Int32 × pz_H)} {l0 : Nat} {l2 : Int32} {l4 : Int32} {s0 : Int32} {s1 : Nat} {r : (Int32 × pz_H)} (hC : pz_OK G C cX10_readWed 5 RX10) (hK : pz_K C (some .boolean) 3 66 0 0) (hk107 : ∀ (g : pz_H) (a0 : Nat) (a2 : Int32) (a4 : Int32), k107 g a0 a2 a4 = some r → pz_W G C 5 107 [(0, .ref a0), (2, .int a2), (4, .int a4)] [] g 0 0 (pz_Q G C (some (.int r.1)) r.2 0 0)) (hf : fX10_readWed_157 k107 f l0 l2 l4 s0 s1 = some r) : pz_W G C 5 157 [(0, .ref l0), (2, .int l2), (4, .int l4)] [.int s0, .ref s1] f 0 0 (pz_Q G C (some (.int r.1)) r.2 0 0) := by
  unfold fX10_readWed_157 at hf
  refine pz_iconst (v := ((-1) : Int32)) hC dX10_readWed_157 (by decide) ?_
  refine pz_goto hC dX10_readWed_158 ?_
  exact tX10_readWed_162 hC hK hk107 hf
def fX10_readWed_107b (k107 : pz_H → Nat → Int32 → Int32 → Option (Int32 × pz_H)) (f : pz_H) (l0 : Nat) (l2 : Int32) (l4 : Int32) : Option (Int32 × pz_H) :=
  if (8 : Int32) ≤ l4 then (pz_gR f l0 9 1).bind fun v1 =>
  (pz_aI f v1 0 ((4 : Int32))).bind fun v2 =>
  (pz_tI f v1 0 ((4 : Int32)) ((v2 + (1 : Int32)))).bind fun f3 =>
  (pz_b ((1 : Int32))).bind fun x => some (x, f3) else
  (pz_gR f l0 9 1).bind fun v4 =>
  if (2 : Int32) ≤ l4 then if l4 = (2 : Int32) then fX10_readWed_157 k107 f l0 l2 l4 ((((35 : Int32) + ((8 : Int32) * l2)) + l4)) v4 else
  if l4 = (7 : Int32) then fX10_readWed_157 k107 f l0 l2 l4 ((((35 : Int32) + ((8 : Int32) * l2)) + l4)) v4 else
  fX10_readWed_162 k107 f l0 l2 l4 ((0 : Int32)) ((((35 : Int32) + ((8 : Int32) * l2)) + l4)) v4 else
  (pz_gR f l0 9 21).bind fun v5 =>
  (pz_aI f v5 0 l4).bind fun v6 =>
  fX10_readWed_162 k107 f l0 l2 l4 v6 ((((35 : Int32) + ((8 : Int32) * l2)) + l4)) v4
theorem tX10_readWed_107b {G : pz_G} {C : pz_C} {f : pz_H} {k107 : pz_H → Nat → Int32 → Int32 → Option (Int32 × pz_H)} {l0 : Nat} {l2 : Int32} {l4 : Int32} {r : (Int32 × pz_H)} (hC : pz_OK G C cX10_readWed 5 RX10) (hK : pz_K C (some .boolean) 3 66 0 0) (hk107 : ∀ (g : pz_H) (a0 : Nat) (a2 : Int32) (a4 : Int32), k107 g a0 a2 a4 = some r → pz_W G C 5 107 [(0, .ref a0), (2, .int a2), (4, .int a4)] [] g 0 0 (pz_Q G C (some (.int r.1)) r.2 0 0)) (hf : fX10_readWed_107b k107 f l0 l2 l4 = some r) : pz_W G C 5 107 [(0, .ref l0), (2, .int l2), (4, .int l4)] [] f 0 0 (pz_Q G C (some (.int r.1)) r.2 0 0) := by
  unfold fX10_readWed_107b at hf
  refine pz_iload hC dX10_readWed_107 2 rfl ?_
  refine pz_bipush (v := (8 : Int32)) hC dX10_readWed_109 (by decide) ?_
  refine pz_icmp_ge hC dX10_readWed_111 hf (fun _ hf => ?_) (fun _ hf => ?_)
  · refine pz_aload_n hC dX10_readWed_169 0 rfl ?_
    refine pz_getR hC dX10_readWed_170 fa_X10_7 hf (fun v1 hf => ?_)
    refine pz_iconst (v := (4 : Int32)) hC dX10_readWed_173 (by decide) ?_
    refine pz_dup2 hC dX10_readWed_174 rfl rfl ?_
    refine pz_iald hC dX10_readWed_175 hf (fun v2 hf => ?_)
    refine pz_iconst (v := (1 : Int32)) hC dX10_readWed_176 (by decide) ?_
    refine pz_iadd hC dX10_readWed_177 ?_
    refine pz_iast hC dX10_readWed_178 hf (fun f3 hf => ?_)
    refine pz_iconst (v := (1 : Int32)) hC dX10_readWed_179 (by decide) ?_
    exact pz_zretw hC hK dX10_readWed_180 hf
  · refine pz_aload_n hC dX10_readWed_114 0 rfl ?_
    refine pz_getR hC dX10_readWed_115 fa_X10_7 hf (fun v4 hf => ?_)
    refine pz_bipush (v := (35 : Int32)) hC dX10_readWed_118 (by decide) ?_
    refine pz_bipush (v := (8 : Int32)) hC dX10_readWed_120 (by decide) ?_
    refine pz_iload_n hC dX10_readWed_122 1 rfl ?_
    refine pz_imul hC dX10_readWed_123 ?_
    refine pz_iadd hC dX10_readWed_124 ?_
    refine pz_iload hC dX10_readWed_125 2 rfl ?_
    refine pz_iadd hC dX10_readWed_127 ?_
    refine pz_iload hC dX10_readWed_128 2 rfl ?_
    refine pz_iconst (v := (2 : Int32)) hC dX10_readWed_130 (by decide) ?_
    refine pz_icmp_ge hC dX10_readWed_131 hf (fun _ hf => ?_) (fun _ hf => ?_)
    · refine pz_iload hC dX10_readWed_144 2 rfl ?_
      refine pz_iconst (v := (2 : Int32)) hC dX10_readWed_146 (by decide) ?_
      refine pz_icmp_eq hC dX10_readWed_147 hf (fun _ hf => ?_) (fun _ hf => ?_)
      · exact tX10_readWed_157 hC hK hk107 hf
      · refine pz_iload hC dX10_readWed_150 2 rfl ?_
        refine pz_bipush (v := (7 : Int32)) hC dX10_readWed_152 (by decide) ?_
        refine pz_icmp_ne hC dX10_readWed_154 hf (fun _ hf => ?_) (fun _ hf => ?_)
        · refine pz_iconst (v := (0 : Int32)) hC dX10_readWed_161 (by decide) ?_
          exact tX10_readWed_162 hC hK hk107 hf
        · exact tX10_readWed_157 hC hK hk107 hf
    · refine pz_aload_n hC dX10_readWed_134 0 rfl ?_
      refine pz_getR hC dX10_readWed_135 fa_X10_41 hf (fun v5 hf => ?_)
      refine pz_iload hC dX10_readWed_138 2 rfl ?_
      refine pz_iald hC dX10_readWed_140 hf (fun v6 hf => ?_)
      refine pz_goto hC dX10_readWed_141 ?_
      exact tX10_readWed_162 hC hK hk107 hf
def fX10_readWed_107 : Nat → pz_H → Nat → Int32 → Int32 → Option (Int32 × pz_H)
  | 0, _, _, _, _ => none
  | n + 1, f, l0, l2, l4 => fX10_readWed_107b (fX10_readWed_107 n) f l0 l2 l4
theorem tX10_readWed_107 {G : pz_G} {C : pz_C} {r : (Int32 × pz_H)} (hC : pz_OK G C cX10_readWed 5 RX10) (hK : pz_K C (some .boolean) 3 66 0 0) : ∀ (N : Nat) (f : pz_H) (l0 : Nat) (l2 : Int32) (l4 : Int32), fX10_readWed_107 N f l0 l2 l4 = some r → pz_W G C 5 107 [(0, .ref l0), (2, .int l2), (4, .int l4)] [] f 0 0 (pz_Q G C (some (.int r.1)) r.2 0 0) := by
  intro N
  induction N with
  | zero => intro f l0 l2 l4 hf; cases hf
  | succ N ih => intro f l0 l2 l4 hf; exact tX10_readWed_107b hC hK (fun f l0 l2 l4 hf => ih f l0 l2 l4 hf) hf
def fX10_readWed_104 (f : pz_H) (l0 : Nat) (l2 : Int32) : Option (Int32 × pz_H) :=
  fX10_readWed_107 pz_F f l0 l2 ((0 : Int32))
theorem tX10_readWed_104 {G : pz_G} {C : pz_C} {f : pz_H} {l0 : Nat} {l2 : Int32} {r : (Int32 × pz_H)} (hC : pz_OK G C cX10_readWed 5 RX10) (hK : pz_K C (some .boolean) 3 66 0 0) (hf : fX10_readWed_104 f l0 l2 = some r) : pz_W G C 5 104 [(0, .ref l0), (2, .int l2)] [] f 0 0 (pz_Q G C (some (.int r.1)) r.2 0 0) := by
  unfold fX10_readWed_104 at hf
  refine pz_iconst (v := (0 : Int32)) hC dX10_readWed_104 (by decide) ?_
  refine pz_istore hC dX10_readWed_105 (by decide) rfl ?_
  refine pz_sub [1, 2, 0] rfl ?_
  exact tX10_readWed_107 hC hK _ _ _ _ _ hf
def fnX10_readWed (f : pz_H) (a0 : Nat) (p1 : Int32) : Option (Int32 × pz_H) :=
  (pz_is f a0 9).bind fun _ =>
  (pz_gR f a0 9 1).bind fun v1 =>
  (pz_aI f v1 0 ((4 : Int32))).bind fun v2 =>
  if v2 = (4 : Int32) then (fnX10_fails f a0 ((3 : Int32)) p1).bind fun x14 =>
  (pz_b x14.1).bind fun x => some (x, x14.2) else
  (fnX10_month f a0 ((0 : Int32))).bind fun x3 =>
  if x3.1 = 0 then fX10_readWed_42 x3.2 else
  (fnX10_month x3.2 a0 ((1 : Int32))).bind fun x4 =>
  if x4.1 = 0 then fX10_readWed_42 x4.2 else
  (fnX10_ends x4.2 a0).bind fun x5 =>
  if x5.1 = 0 then fX10_readWed_42 x5.2 else
  (pz_gR x5.2 a0 9 21).bind fun v6 =>
  (pz_aI x5.2 v6 0 ((1 : Int32))).bind fun v7 =>
  (pz_gR x5.2 a0 9 21).bind fun v8 =>
  (pz_aI x5.2 v8 0 ((0 : Int32))).bind fun v9 =>
  if v7 < v9 then fX10_readWed_97 x5.2 a0 p1 else
  (pz_gR x5.2 a0 9 1).bind fun v10 =>
  (pz_aI x5.2 v10 0 ((0 : Int32))).bind fun v11 =>
  if v7 < v11 then fX10_readWed_97 x5.2 a0 p1 else
  if v2 ≤ 0 then fX10_readWed_104 x5.2 a0 v2 else
  (fnX10_isParted x5.2 a0 ((v2 - (1 : Int32)))).bind fun x12 =>
  if x12 = 0 then fX10_readWed_97 x5.2 a0 p1 else
  (fnX10_its x5.2 a0 ((v2 - (1 : Int32))) ((2 : Int32))).bind fun x13 =>
  if x13 ≤ v7 then fX10_readWed_104 x5.2 a0 v2 else
  fX10_readWed_97 x5.2 a0 p1
theorem mX10_readWed {l : Launch} {G : pz_G} {f : pz_H} {a0 : Nat} {p1 : Int32} {r : (Int32 × pz_H)} (hf : fnX10_readWed f a0 p1 = some r) : pz_Met l G yX10_readWed cX10_readWed 5 (some .boolean) 3 66 0 0 [.ref a0, .int p1] f (some (.int r.1)) r.2 ∧ pz_is f a0 9 = some () := by
  unfold fnX10_readWed at hf
  obtain ⟨_, h0, hf⟩ := pz_bd hf
  refine ⟨pz_enter (by decide +kernel) (Nat.le_of_ble_eq_true rfl) (fun C hl hC hK hnm => ?_), h0⟩
  subst hl
  refine pz_sub (lv' := [(0, .ref a0), (1, .int p1)]) [0, 1] rfl ?_
  refine pz_aload_n hC dX10_readWed_0 0 rfl ?_
  refine pz_getR hC dX10_readWed_1 fa_X10_7 hf (fun v1 hf => ?_)
  refine pz_iconst (v := (4 : Int32)) hC dX10_readWed_4 (by decide) ?_
  refine pz_iald hC dX10_readWed_5 hf (fun v2 hf => ?_)
  refine pz_istore_n hC dX10_readWed_6 (by decide) rfl ?_
  refine pz_iload_n hC dX10_readWed_7 0 rfl ?_
  refine pz_iconst (v := (4 : Int32)) hC dX10_readWed_8 (by decide) ?_
  refine pz_icmp_ne hC dX10_readWed_9 hf (fun _ hf => ?_) (fun _ hf => ?_)
  · refine pz_aload_n hC dX10_readWed_19 1 rfl ?_
    refine pz_iconst (v := (0 : Int32)) hC dX10_readWed_20 (by decide) ?_
    refine pz_Viw (As := [.int (0 : Int32)]) hC hK dX10_readWed_21 py_X10_month pv_X10_month lk_X10_247 hf (fun _ h => mX10_month h) rfl rfl (Nat.le_of_ble_eq_true rfl) ⟨by decide, by decide⟩ ⟨by decide, by decide⟩ (fun x3 hf => ?_)
    refine pz_if_eq hC dX10_readWed_24 hf (fun _ hf => ?_) (fun _ hf => ?_)
    · refine pz_sub [] rfl ?_
      exact tX10_readWed_42 hC hK hf
    · refine pz_aload_n hC dX10_readWed_27 1 rfl ?_
      refine pz_iconst (v := (1 : Int32)) hC dX10_readWed_28 (by decide) ?_
      refine pz_Viw (As := [.int (1 : Int32)]) hC hK dX10_readWed_29 py_X10_month pv_X10_month lk_X10_247 hf (fun _ h => mX10_month h) rfl rfl (Nat.le_of_ble_eq_true rfl) ⟨by decide, by decide⟩ ⟨by decide, by decide⟩ (fun x4 hf => ?_)
      refine pz_if_eq hC dX10_readWed_32 hf (fun _ hf => ?_) (fun _ hf => ?_)
      · refine pz_sub [] rfl ?_
        exact tX10_readWed_42 hC hK hf
      · refine pz_aload_n hC dX10_readWed_35 1 rfl ?_
        refine pz_Viw (As := []) hC hK dX10_readWed_36 py_X10_ends pv_X10_ends lk_X10_251 hf (fun _ h => mX10_ends h) rfl rfl (Nat.le_of_ble_eq_true rfl) ⟨by decide, by decide⟩ ⟨by decide, by decide⟩ (fun x5 hf => ?_)
        refine pz_if_ne hC dX10_readWed_39 hf (fun _ hf => ?_) (fun _ hf => ?_)
        · refine pz_aload_n hC dX10_readWed_44 1 rfl ?_
          refine pz_getR hC dX10_readWed_45 fa_X10_41 hf (fun v6 hf => ?_)
          refine pz_iconst (v := (1 : Int32)) hC dX10_readWed_48 (by decide) ?_
          refine pz_iald hC dX10_readWed_49 hf (fun v7 hf => ?_)
          refine pz_istore_n hC dX10_readWed_50 (by decide) rfl ?_
          refine pz_iload_n hC dX10_readWed_51 0 rfl ?_
          refine pz_aload_n hC dX10_readWed_52 2 rfl ?_
          refine pz_getR hC dX10_readWed_53 fa_X10_41 hf (fun v8 hf => ?_)
          refine pz_iconst (v := (0 : Int32)) hC dX10_readWed_56 (by decide) ?_
          refine pz_iald hC dX10_readWed_57 hf (fun v9 hf => ?_)
          refine pz_icmp_lt hC dX10_readWed_58 hf (fun _ hf => ?_) (fun _ hf => ?_)
          · refine pz_sub [2, 3] rfl ?_
            exact tX10_readWed_97 hC hK hf
          · refine pz_iload_n hC dX10_readWed_61 0 rfl ?_
            refine pz_aload_n hC dX10_readWed_62 2 rfl ?_
            refine pz_getR hC dX10_readWed_63 fa_X10_7 hf (fun v10 hf => ?_)
            refine pz_iconst (v := (0 : Int32)) hC dX10_readWed_66 (by decide) ?_
            refine pz_iald hC dX10_readWed_67 hf (fun v11 hf => ?_)
            refine pz_icmp_lt hC dX10_readWed_68 hf (fun _ hf => ?_) (fun _ hf => ?_)
            · refine pz_sub [2, 3] rfl ?_
              exact tX10_readWed_97 hC hK hf
            · refine pz_iload_n hC dX10_readWed_71 1 rfl ?_
              refine pz_if_le hC dX10_readWed_72 hf (fun _ hf => ?_) (fun _ hf => ?_)
              · refine pz_sub [2, 1] rfl ?_
                exact tX10_readWed_104 hC hK hf
              · refine pz_aload_n hC dX10_readWed_75 2 rfl ?_
                refine pz_iload_n hC dX10_readWed_76 1 rfl ?_
                refine pz_iconst (v := (1 : Int32)) hC dX10_readWed_77 (by decide) ?_
                refine pz_isub hC dX10_readWed_78 ?_
                refine pz_Vi (As := [.int (v2 - (1 : Int32))]) hC hK dX10_readWed_79 py_X10_isParted pv_X10_isParted lk_X10_91 hf (fun _ h => mX10_isParted h) rfl rfl (Nat.le_of_ble_eq_true rfl) ⟨by decide, by decide⟩ ⟨by decide, by decide⟩ (fun x12 hf => ?_)
                refine pz_if_eq hC dX10_readWed_82 hf (fun _ hf => ?_) (fun _ hf => ?_)
                · refine pz_sub [2, 3] rfl ?_
                  exact tX10_readWed_97 hC hK hf
                · refine pz_iload_n hC dX10_readWed_85 0 rfl ?_
                  refine pz_aload_n hC dX10_readWed_86 2 rfl ?_
                  refine pz_iload_n hC dX10_readWed_87 1 rfl ?_
                  refine pz_iconst (v := (1 : Int32)) hC dX10_readWed_88 (by decide) ?_
                  refine pz_isub hC dX10_readWed_89 ?_
                  refine pz_iconst (v := (2 : Int32)) hC dX10_readWed_90 (by decide) ?_
                  refine pz_Vi (As := [.int (v2 - (1 : Int32)), .int (2 : Int32)]) hC hK dX10_readWed_91 py_X10_its pv_X10_its lk_X10_56 hf (fun _ h => mX10_its h) rfl rfl (Nat.le_of_ble_eq_true rfl) ⟨by decide, by decide⟩ ⟨by decide, by decide⟩ (fun x13 hf => ?_)
                  refine pz_icmp_ge hC dX10_readWed_94 hf (fun _ hf => ?_) (fun _ hf => ?_)
                  · refine pz_sub [2, 1] rfl ?_
                    exact tX10_readWed_104 hC hK hf
                  · refine pz_sub [2, 3] rfl ?_
                    exact tX10_readWed_97 hC hK hf
        · refine pz_sub [] rfl ?_
          exact tX10_readWed_42 hC hK hf
  · refine pz_aload_n hC dX10_readWed_12 1 rfl ?_
    refine pz_iconst (v := (3 : Int32)) hC dX10_readWed_13 (by decide) ?_
    refine pz_iload_n hC dX10_readWed_14 2 rfl ?_
    refine pz_Viw (As := [.int (3 : Int32), .int p1]) hC hK dX10_readWed_15 py_X10_fails pv_X10_fails lk_X10_231 hf (fun _ h => mX10_fails h) rfl rfl (Nat.le_of_ble_eq_true rfl) ⟨by decide, by decide⟩ ⟨by decide, by decide⟩ (fun x14 hf => ?_)
    exact pz_zretw hC hK dX10_readWed_18 hf
def fX10_readPart_20 (f : pz_H) : Option (Int32 × pz_H) :=
  (pz_b ((0 : Int32))).bind fun x => some (x, f)
theorem tX10_readPart_20 {G : pz_G} {C : pz_C} {f : pz_H} {r : (Int32 × pz_H)} (hC : pz_OK G C cX10_readPart 5 RX10) (hK : pz_K C (some .boolean) 3 66 0 0) (hf : fX10_readPart_20 f = some r) : pz_W G C 5 20 [] [] f 0 0 (pz_Q G C (some (.int r.1)) r.2 0 0) := by
  unfold fX10_readPart_20 at hf
  refine pz_iconst (v := (0 : Int32)) hC dX10_readPart_20 (by decide) ?_
  exact pz_zretw hC hK dX10_readPart_21 hf
def fX10_readPart_96 (f : pz_H) : Option (Int32 × pz_H) :=
  (pz_b ((0 : Int32))).bind fun x => some (x, f)
theorem tX10_readPart_96 {G : pz_G} {C : pz_C} {f : pz_H} {r : (Int32 × pz_H)} (hC : pz_OK G C cX10_readPart 5 RX10) (hK : pz_K C (some .boolean) 3 66 0 0) (hf : fX10_readPart_96 f = some r) : pz_W G C 5 96 [] [] f 0 0 (pz_Q G C (some (.int r.1)) r.2 0 0) := by
  unfold fX10_readPart_96 at hf
  refine pz_iconst (v := (0 : Int32)) hC dX10_readPart_96 (by decide) ?_
  exact pz_zretw hC hK dX10_readPart_97 hf
def fX10_readPart_138 (f : pz_H) (l0 : Nat) (l1 : Int32) : Option (Int32 × pz_H) :=
  (fnX10_fails f l0 ((4 : Int32)) l1).bind fun x1 =>
  (pz_b x1.1).bind fun x => some (x, x1.2)
theorem tX10_readPart_138 {G : pz_G} {C : pz_C} {f : pz_H} {l0 : Nat} {l1 : Int32} {r : (Int32 × pz_H)} (hC : pz_OK G C cX10_readPart 5 RX10) (hK : pz_K C (some .boolean) 3 66 0 0) (hf : fX10_readPart_138 f l0 l1 = some r) : pz_W G C 5 138 [(0, .ref l0), (1, .int l1)] [] f 0 0 (pz_Q G C (some (.int r.1)) r.2 0 0) := by
  unfold fX10_readPart_138 at hf
  refine pz_aload_n hC dX10_readPart_138 0 rfl ?_
  refine pz_iconst (v := (4 : Int32)) hC dX10_readPart_139 (by decide) ?_
  refine pz_iload_n hC dX10_readPart_140 1 rfl ?_
  refine pz_Viw (As := [.int (4 : Int32), .int l1]) hC hK dX10_readPart_141 py_X10_fails pv_X10_fails lk_X10_231 hf (fun _ h => mX10_fails h) rfl rfl (Nat.le_of_ble_eq_true rfl) ⟨by decide, by decide⟩ ⟨by decide, by decide⟩ (fun x1 hf => ?_)
  exact pz_zretw hC hK dX10_readPart_144 hf
def fX10_readPart_214 (f : pz_H) (l0 : Nat) (l4 : Int32) (s0 : Int32) (s1 : Int32) (s2 : Nat) : Option (Int32 × pz_H) :=
  (pz_tI f s2 0 s1 s0).bind fun f1 =>
  (pz_gR f1 l0 9 1).bind fun v2 =>
  (pz_gR f1 l0 9 21).bind fun v3 =>
  (pz_aI f1 v3 0 ((2 : Int32))).bind fun v4 =>
  (pz_tI f1 v2 0 ((((35 : Int32) + ((8 : Int32) * l4)) + (5 : Int32))) v4).bind fun f5 =>
  (pz_b ((1 : Int32))).bind fun x => some (x, f5)
theorem tX10_readPart_214 {G : pz_G} {C : pz_C} {f : pz_H} {l0 : Nat} {l4 : Int32} {s0 : Int32} {s1 : Int32} {s2 : Nat} {r : (Int32 × pz_H)} (hC : pz_OK G C cX10_readPart 5 RX10) (hK : pz_K C (some .boolean) 3 66 0 0) (hf : fX10_readPart_214 f l0 l4 s0 s1 s2 = some r) : pz_W G C 5 214 [(0, .ref l0), (4, .int l4)] [.int s0, .int s1, .ref s2] f 0 0 (pz_Q G C (some (.int r.1)) r.2 0 0) := by
  unfold fX10_readPart_214 at hf
  refine pz_iast hC dX10_readPart_214 hf (fun f1 hf => ?_)
  refine pz_aload_n hC dX10_readPart_215 0 rfl ?_
  refine pz_getR hC dX10_readPart_216 fa_X10_7 hf (fun v2 hf => ?_)
  refine pz_bipush (v := (35 : Int32)) hC dX10_readPart_219 (by decide) ?_
  refine pz_bipush (v := (8 : Int32)) hC dX10_readPart_221 (by decide) ?_
  refine pz_iload hC dX10_readPart_223 1 rfl ?_
  refine pz_imul hC dX10_readPart_225 ?_
  refine pz_iadd hC dX10_readPart_226 ?_
  refine pz_iconst (v := (5 : Int32)) hC dX10_readPart_227 (by decide) ?_
  refine pz_iadd hC dX10_readPart_228 ?_
  refine pz_aload_n hC dX10_readPart_229 0 rfl ?_
  refine pz_getR hC dX10_readPart_230 fa_X10_41 hf (fun v3 hf => ?_)
  refine pz_iconst (v := (2 : Int32)) hC dX10_readPart_233 (by decide) ?_
  refine pz_iald hC dX10_readPart_234 hf (fun v4 hf => ?_)
  refine pz_iast hC dX10_readPart_235 hf (fun f5 hf => ?_)
  refine pz_iconst (v := (1 : Int32)) hC dX10_readPart_236 (by decide) ?_
  exact pz_zretw hC hK dX10_readPart_237 hf
def fX10_readPart_77 (f : pz_H) (l0 : Nat) (l1 : Int32) (l2 : Int64) : Option (Int32 × pz_H) :=
  (fnX10_number f l0 ((2 : Int32)) ((0 : Int32)) ((1000 : Int32))).bind fun x1 =>
  if x1.1 = 0 then fX10_readPart_96 x1.2 else
  (fnX10_ends x1.2 l0).bind fun x2 =>
  if x2.1 = 0 then fX10_readPart_96 x2.2 else
  (pz_gR x2.2 l0 9 1).bind fun v3 =>
  (pz_aI x2.2 v3 0 ((4 : Int32))).bind fun v4 =>
  if (v4 - (1 : Int32)) < 0 then fX10_readPart_138 x2.2 l0 l1 else
  (fnX10_isParted x2.2 l0 ((v4 - (1 : Int32)))).bind fun x5 =>
  if x5 = 0 then (pz_gR x2.2 l0 9 21).bind fun v6 =>
  (pz_aI x2.2 v6 0 ((0 : Int32))).bind fun v7 =>
  (fnX10_its x2.2 l0 ((v4 - (1 : Int32))) ((1 : Int32))).bind fun x8 =>
  if x8 < v7 then (pz_gR x2.2 l0 9 1).bind fun v9 =>
  (pz_gR x2.2 l0 9 21).bind fun v10 =>
  (pz_aI x2.2 v10 0 ((0 : Int32))).bind fun v11 =>
  (pz_tI x2.2 v9 0 ((((35 : Int32) + ((8 : Int32) * (v4 - (1 : Int32)))) + (2 : Int32))) v11).bind fun f12 =>
  (pz_gR f12 l0 9 1).bind fun v13 =>
  (pz_gR f12 l0 9 21).bind fun v14 =>
  (pz_aI f12 v14 0 ((1 : Int32))).bind fun v15 =>
  (pz_tI f12 v13 0 ((((35 : Int32) + ((8 : Int32) * (v4 - (1 : Int32)))) + (3 : Int32))) v15).bind fun f16 =>
  (pz_gR f16 l0 9 1).bind fun v17 =>
  if (lg_cmp l2 ((847604 : Int64))) = 0 then fX10_readPart_214 f16 l0 ((v4 - (1 : Int32))) ((1 : Int32)) ((((35 : Int32) + ((8 : Int32) * (v4 - (1 : Int32)))) + (4 : Int32))) v17 else
  fX10_readPart_214 f16 l0 ((v4 - (1 : Int32))) ((0 : Int32)) ((((35 : Int32) + ((8 : Int32) * (v4 - (1 : Int32)))) + (4 : Int32))) v17 else
  fX10_readPart_138 x2.2 l0 l1 else
  fX10_readPart_138 x2.2 l0 l1
theorem tX10_readPart_77 {G : pz_G} {C : pz_C} {f : pz_H} {l0 : Nat} {l1 : Int32} {l2 : Int64} {r : (Int32 × pz_H)} (hC : pz_OK G C cX10_readPart 5 RX10) (hK : pz_K C (some .boolean) 3 66 0 0) (hf : fX10_readPart_77 f l0 l1 l2 = some r) : pz_W G C 5 77 [(0, .ref l0), (1, .int l1), (2, .long l2)] [] f 0 0 (pz_Q G C (some (.int r.1)) r.2 0 0) := by
  unfold fX10_readPart_77 at hf
  refine pz_aload_n hC dX10_readPart_77 0 rfl ?_
  refine pz_iconst (v := (2 : Int32)) hC dX10_readPart_78 (by decide) ?_
  refine pz_iconst (v := (0 : Int32)) hC dX10_readPart_79 (by decide) ?_
  refine pz_sipush (v := (1000 : Int32)) hC dX10_readPart_80 (by decide) ?_
  refine pz_Viw (As := [.int (2 : Int32), .int (0 : Int32), .int (1000 : Int32)]) hC hK dX10_readPart_83 py_X10_number pv_X10_number lk_X10_240 hf (fun _ h => mX10_number h) rfl rfl (Nat.le_of_ble_eq_true rfl) ⟨by decide, by decide⟩ ⟨by decide, by decide⟩ (fun x1 hf => ?_)
  refine pz_if_eq hC dX10_readPart_86 hf (fun _ hf => ?_) (fun _ hf => ?_)
  · refine pz_sub [] rfl ?_
    exact tX10_readPart_96 hC hK hf
  · refine pz_aload_n hC dX10_readPart_89 0 rfl ?_
    refine pz_Viw (As := []) hC hK dX10_readPart_90 py_X10_ends pv_X10_ends lk_X10_251 hf (fun _ h => mX10_ends h) rfl rfl (Nat.le_of_ble_eq_true rfl) ⟨by decide, by decide⟩ ⟨by decide, by decide⟩ (fun x2 hf => ?_)
    refine pz_if_ne hC dX10_readPart_93 hf (fun _ hf => ?_) (fun _ hf => ?_)
    · refine pz_aload_n hC dX10_readPart_98 0 rfl ?_
      refine pz_getR hC dX10_readPart_99 fa_X10_7 hf (fun v3 hf => ?_)
      refine pz_iconst (v := (4 : Int32)) hC dX10_readPart_102 (by decide) ?_
      refine pz_iald hC dX10_readPart_103 hf (fun v4 hf => ?_)
      refine pz_iconst (v := (1 : Int32)) hC dX10_readPart_104 (by decide) ?_
      refine pz_isub hC dX10_readPart_105 ?_
      refine pz_istore hC dX10_readPart_106 (by decide) rfl ?_
      refine pz_iload hC dX10_readPart_108 0 rfl ?_
      refine pz_if_lt hC dX10_readPart_110 hf (fun _ hf => ?_) (fun _ hf => ?_)
      · refine pz_sub [1, 2] rfl ?_
        exact tX10_readPart_138 hC hK hf
      · refine pz_aload_n hC dX10_readPart_113 1 rfl ?_
        refine pz_iload hC dX10_readPart_114 0 rfl ?_
        refine pz_Vi (As := [.int (v4 - (1 : Int32))]) hC hK dX10_readPart_116 py_X10_isParted pv_X10_isParted lk_X10_91 hf (fun _ h => mX10_isParted h) rfl rfl (Nat.le_of_ble_eq_true rfl) ⟨by decide, by decide⟩ ⟨by decide, by decide⟩ (fun x5 hf => ?_)
        refine pz_if_ne hC dX10_readPart_119 hf (fun _ hf => ?_) (fun _ hf => ?_)
        · refine pz_sub [1, 2] rfl ?_
          exact tX10_readPart_138 hC hK hf
        · refine pz_aload_n hC dX10_readPart_122 1 rfl ?_
          refine pz_getR hC dX10_readPart_123 fa_X10_41 hf (fun v6 hf => ?_)
          refine pz_iconst (v := (0 : Int32)) hC dX10_readPart_126 (by decide) ?_
          refine pz_iald hC dX10_readPart_127 hf (fun v7 hf => ?_)
          refine pz_aload_n hC dX10_readPart_128 1 rfl ?_
          refine pz_iload hC dX10_readPart_129 0 rfl ?_
          refine pz_iconst (v := (1 : Int32)) hC dX10_readPart_131 (by decide) ?_
          refine pz_Vi (As := [.int (v4 - (1 : Int32)), .int (1 : Int32)]) hC hK dX10_readPart_132 py_X10_its pv_X10_its lk_X10_56 hf (fun _ h => mX10_its h) rfl rfl (Nat.le_of_ble_eq_true rfl) ⟨by decide, by decide⟩ ⟨by decide, by decide⟩ (fun x8 hf => ?_)
          refine pz_icmp_gt hC dX10_readPart_135 hf (fun _ hf => ?_) (fun _ hf => ?_)
          · refine pz_aload_n hC dX10_readPart_145 1 rfl ?_
            refine pz_getR hC dX10_readPart_146 fa_X10_7 hf (fun v9 hf => ?_)
            refine pz_bipush (v := (35 : Int32)) hC dX10_readPart_149 (by decide) ?_
            refine pz_bipush (v := (8 : Int32)) hC dX10_readPart_151 (by decide) ?_
            refine pz_iload hC dX10_readPart_153 0 rfl ?_
            refine pz_imul hC dX10_readPart_155 ?_
            refine pz_iadd hC dX10_readPart_156 ?_
            refine pz_iconst (v := (2 : Int32)) hC dX10_readPart_157 (by decide) ?_
            refine pz_iadd hC dX10_readPart_158 ?_
            refine pz_aload_n hC dX10_readPart_159 1 rfl ?_
            refine pz_getR hC dX10_readPart_160 fa_X10_41 hf (fun v10 hf => ?_)
            refine pz_iconst (v := (0 : Int32)) hC dX10_readPart_163 (by decide) ?_
            refine pz_iald hC dX10_readPart_164 hf (fun v11 hf => ?_)
            refine pz_iast hC dX10_readPart_165 hf (fun f12 hf => ?_)
            refine pz_aload_n hC dX10_readPart_166 1 rfl ?_
            refine pz_getR hC dX10_readPart_167 fa_X10_7 hf (fun v13 hf => ?_)
            refine pz_bipush (v := (35 : Int32)) hC dX10_readPart_170 (by decide) ?_
            refine pz_bipush (v := (8 : Int32)) hC dX10_readPart_172 (by decide) ?_
            refine pz_iload hC dX10_readPart_174 0 rfl ?_
            refine pz_imul hC dX10_readPart_176 ?_
            refine pz_iadd hC dX10_readPart_177 ?_
            refine pz_iconst (v := (3 : Int32)) hC dX10_readPart_178 (by decide) ?_
            refine pz_iadd hC dX10_readPart_179 ?_
            refine pz_aload_n hC dX10_readPart_180 1 rfl ?_
            refine pz_getR hC dX10_readPart_181 fa_X10_41 hf (fun v14 hf => ?_)
            refine pz_iconst (v := (1 : Int32)) hC dX10_readPart_184 (by decide) ?_
            refine pz_iald hC dX10_readPart_185 hf (fun v15 hf => ?_)
            refine pz_iast hC dX10_readPart_186 hf (fun f16 hf => ?_)
            refine pz_aload_n hC dX10_readPart_187 1 rfl ?_
            refine pz_getR hC dX10_readPart_188 fa_X10_7 hf (fun v17 hf => ?_)
            refine pz_bipush (v := (35 : Int32)) hC dX10_readPart_191 (by decide) ?_
            refine pz_bipush (v := (8 : Int32)) hC dX10_readPart_193 (by decide) ?_
            refine pz_iload hC dX10_readPart_195 0 rfl ?_
            refine pz_imul hC dX10_readPart_197 ?_
            refine pz_iadd hC dX10_readPart_198 ?_
            refine pz_iconst (v := (4 : Int32)) hC dX10_readPart_199 (by decide) ?_
            refine pz_iadd hC dX10_readPart_200 ?_
            refine pz_lload_n hC dX10_readPart_201 3 rfl ?_
            refine pz_ldc2 hC dX10_readPart_202 ck_X10_261 ?_
            refine pz_lcmp hC dX10_readPart_205 ?_
            refine pz_if_ne hC dX10_readPart_206 hf (fun _ hf => ?_) (fun _ hf => ?_)
            · refine pz_iconst (v := (0 : Int32)) hC dX10_readPart_213 (by decide) ?_
              refine pz_sub [1, 0] rfl ?_
              exact tX10_readPart_214 hC hK hf
            · refine pz_iconst (v := (1 : Int32)) hC dX10_readPart_209 (by decide) ?_
              refine pz_goto hC dX10_readPart_210 ?_
              refine pz_sub [1, 0] rfl ?_
              exact tX10_readPart_214 hC hK hf
          · refine pz_sub [1, 2] rfl ?_
            exact tX10_readPart_138 hC hK hf
    · refine pz_sub [] rfl ?_
      exact tX10_readPart_96 hC hK hf
def fnX10_readPart (f : pz_H) (a0 : Nat) (p1 : Int32) : Option (Int32 × pz_H) :=
  (pz_is f a0 9).bind fun _ =>
  (fnX10_month f a0 ((0 : Int32))).bind fun x1 =>
  if x1.1 = 0 then fX10_readPart_20 x1.2 else
  (fnX10_number x1.2 a0 ((1 : Int32)) ((0 : Int32)) ((1000 : Int32))).bind fun x2 =>
  if x2.1 = 0 then fX10_readPart_20 x2.2 else
  (fnX10_here x2.2 a0).bind fun x3 =>
  (fnX10_in x3.1 ((97 : Int32)) ((122 : Int32))).bind fun x4 =>
  if x4 = 0 then (pz_gI x3.2 a0 9 16).bind fun v8 =>
  (fnX10_fails x3.2 a0 ((1 : Int32)) v8).bind fun x9 =>
  (pz_b x9.1).bind fun x => some (x, x9.2) else
  (fnX10_readWord x3.2 a0).bind fun x5 =>
  if (lg_cmp x5.1 ((276913705 : Int64))) = 0 then fX10_readPart_77 x5.2 a0 p1 x5.1 else
  if (lg_cmp x5.1 ((847604 : Int64))) = 0 then fX10_readPart_77 x5.2 a0 p1 x5.1 else
  (pz_gI x5.2 a0 9 19).bind fun v6 =>
  (fnX10_fails x5.2 a0 ((1 : Int32)) v6).bind fun x7 =>
  (pz_b x7.1).bind fun x => some (x, x7.2)
theorem mX10_readPart {l : Launch} {G : pz_G} {f : pz_H} {a0 : Nat} {p1 : Int32} {r : (Int32 × pz_H)} (hf : fnX10_readPart f a0 p1 = some r) : pz_Met l G yX10_readPart cX10_readPart 5 (some .boolean) 3 66 0 0 [.ref a0, .int p1] f (some (.int r.1)) r.2 ∧ pz_is f a0 9 = some () := by
  unfold fnX10_readPart at hf
  obtain ⟨_, h0, hf⟩ := pz_bd hf
  refine ⟨pz_enter (by decide +kernel) (Nat.le_of_ble_eq_true rfl) (fun C hl hC hK hnm => ?_), h0⟩
  subst hl
  refine pz_sub (lv' := [(0, .ref a0), (1, .int p1)]) [0, 1] rfl ?_
  refine pz_aload_n hC dX10_readPart_0 0 rfl ?_
  refine pz_iconst (v := (0 : Int32)) hC dX10_readPart_1 (by decide) ?_
  refine pz_Viw (As := [.int (0 : Int32)]) hC hK dX10_readPart_2 py_X10_month pv_X10_month lk_X10_247 hf (fun _ h => mX10_month h) rfl rfl (Nat.le_of_ble_eq_true rfl) ⟨by decide, by decide⟩ ⟨by decide, by decide⟩ (fun x1 hf => ?_)
  refine pz_if_eq hC dX10_readPart_5 hf (fun _ hf => ?_) (fun _ hf => ?_)
  · refine pz_sub [] rfl ?_
    exact tX10_readPart_20 hC hK hf
  · refine pz_aload_n hC dX10_readPart_8 0 rfl ?_
    refine pz_iconst (v := (1 : Int32)) hC dX10_readPart_9 (by decide) ?_
    refine pz_iconst (v := (0 : Int32)) hC dX10_readPart_10 (by decide) ?_
    refine pz_sipush (v := (1000 : Int32)) hC dX10_readPart_11 (by decide) ?_
    refine pz_Viw (As := [.int (1 : Int32), .int (0 : Int32), .int (1000 : Int32)]) hC hK dX10_readPart_14 py_X10_number pv_X10_number lk_X10_240 hf (fun _ h => mX10_number h) rfl rfl (Nat.le_of_ble_eq_true rfl) ⟨by decide, by decide⟩ ⟨by decide, by decide⟩ (fun x2 hf => ?_)
    refine pz_if_ne hC dX10_readPart_17 hf (fun _ hf => ?_) (fun _ hf => ?_)
    · refine pz_aload_n hC dX10_readPart_22 0 rfl ?_
      refine pz_Viw (As := []) hC hK dX10_readPart_23 py_X10_here pv_X10_here lk_X10_228 hf (fun _ h => mX10_here h) rfl rfl (Nat.le_of_ble_eq_true rfl) ⟨by decide, by decide⟩ ⟨by decide, by decide⟩ (fun x3 hf => ?_)
      refine pz_bipush (v := (97 : Int32)) hC dX10_readPart_26 (by decide) ?_
      refine pz_bipush (v := (122 : Int32)) hC dX10_readPart_28 (by decide) ?_
      refine pz_Si (As := [.int x3.1, .int (97 : Int32), .int (122 : Int32)]) hC hK dX10_readPart_30 py_X10_in ps_X10_in lk_X10_52 hf (fun _ h => mX10_in h) rfl rfl (Nat.le_of_ble_eq_true rfl) ⟨by decide, by decide⟩ ⟨by decide, by decide⟩ (fun x4 hf => ?_)
      refine pz_if_ne hC dX10_readPart_33 hf (fun _ hf => ?_) (fun _ hf => ?_)
      · refine pz_aload_n hC dX10_readPart_46 0 rfl ?_
        refine pz_Vlw (As := []) hC hK dX10_readPart_47 py_X10_readWord pv_X10_readWord lk_X10_255 hf (fun _ h => mX10_readWord h) rfl rfl (Nat.le_of_ble_eq_true rfl) ⟨by decide, by decide⟩ ⟨by decide, by decide⟩ (fun x5 hf => ?_)
        refine pz_lstore_n hC dX10_readPart_50 (by decide) rfl ?_
        refine pz_lload_n hC dX10_readPart_51 0 rfl ?_
        refine pz_ldc2 hC dX10_readPart_52 ck_X10_259 ?_
        refine pz_lcmp hC dX10_readPart_55 ?_
        refine pz_if_eq hC dX10_readPart_56 hf (fun _ hf => ?_) (fun _ hf => ?_)
        · refine pz_sub [1, 2, 0] rfl ?_
          exact tX10_readPart_77 hC hK hf
        · refine pz_lload_n hC dX10_readPart_59 0 rfl ?_
          refine pz_ldc2 hC dX10_readPart_60 ck_X10_261 ?_
          refine pz_lcmp hC dX10_readPart_63 ?_
          refine pz_if_eq hC dX10_readPart_64 hf (fun _ hf => ?_) (fun _ hf => ?_)
          · refine pz_sub [1, 2, 0] rfl ?_
            exact tX10_readPart_77 hC hK hf
          · refine pz_aload_n hC dX10_readPart_67 1 rfl ?_
            refine pz_iconst (v := (1 : Int32)) hC dX10_readPart_68 (by decide) ?_
            refine pz_aload_n hC dX10_readPart_69 1 rfl ?_
            refine pz_getI hC dX10_readPart_70 fa_X10_234 hf (fun v6 hf => ?_)
            refine pz_Viw (As := [.int (1 : Int32), .int v6]) hC hK dX10_readPart_73 py_X10_fails pv_X10_fails lk_X10_231 hf (fun _ h => mX10_fails h) rfl rfl (Nat.le_of_ble_eq_true rfl) ⟨by decide, by decide⟩ ⟨by decide, by decide⟩ (fun x7 hf => ?_)
            exact pz_zretw hC hK dX10_readPart_76 hf
      · refine pz_aload_n hC dX10_readPart_36 0 rfl ?_
        refine pz_iconst (v := (1 : Int32)) hC dX10_readPart_37 (by decide) ?_
        refine pz_aload_n hC dX10_readPart_38 0 rfl ?_
        refine pz_getI hC dX10_readPart_39 fa_X10_222 hf (fun v8 hf => ?_)
        refine pz_Viw (As := [.int (1 : Int32), .int v8]) hC hK dX10_readPart_42 py_X10_fails pv_X10_fails lk_X10_231 hf (fun _ h => mX10_fails h) rfl rfl (Nat.le_of_ble_eq_true rfl) ⟨by decide, by decide⟩ ⟨by decide, by decide⟩ (fun x9 hf => ?_)
        exact pz_zretw hC hK dX10_readPart_45 hf
    · refine pz_sub [] rfl ?_
      exact tX10_readPart_20 hC hK hf
def fX10_readLives_29 (f : pz_H) : Option (Int32 × pz_H) :=
  (pz_b ((0 : Int32))).bind fun x => some (x, f)
theorem tX10_readLives_29 {G : pz_G} {C : pz_C} {f : pz_H} {r : (Int32 × pz_H)} (hC : pz_OK G C cX10_readLives 7 RX10) (hK : pz_K C (some .boolean) 2 45 0 0) (hf : fX10_readLives_29 f = some r) : pz_W G C 7 29 [] [] f 0 0 (pz_Q G C (some (.int r.1)) r.2 0 0) := by
  unfold fX10_readLives_29 at hf
  refine pz_iconst (v := (0 : Int32)) hC dX10_readLives_29 (by decide) ?_
  exact pz_zretw hC hK dX10_readLives_30 hf
def fX10_readLives_155 (k43 : pz_H → Nat → Int32 → Int32 → Int32 → Int32 → Option (Int32 × pz_H)) (f : pz_H) (l0 : Nat) (l1 : Int32) (l2 : Int32) (l4 : Int32) (s0 : Int32) : Option (Int32 × pz_H) :=
  k43 f l0 l1 l2 s0 ((l4 + 1))
theorem tX10_readLives_155 {G : pz_G} {C : pz_C} {f : pz_H} {k43 : pz_H → Nat → Int32 → Int32 → Int32 → Int32 → Option (Int32 × pz_H)} {l0 : Nat} {l1 : Int32} {l2 : Int32} {l4 : Int32} {s0 : Int32} {r : (Int32 × pz_H)} (hC : pz_OK G C cX10_readLives 7 RX10) (hK : pz_K C (some .boolean) 2 45 0 0) (hk43 : ∀ (g : pz_H) (a0 : Nat) (a1 : Int32) (a2 : Int32) (a3 : Int32) (a4 : Int32), k43 g a0 a1 a2 a3 a4 = some r → pz_W G C 7 43 [(0, .ref a0), (1, .int a1), (2, .int a2), (3, .int a3), (4, .int a4)] [] g 0 0 (pz_Q G C (some (.int r.1)) r.2 0 0)) (hf : fX10_readLives_155 k43 f l0 l1 l2 l4 s0 = some r) : pz_W G C 7 155 [(0, .ref l0), (1, .int l1), (2, .int l2), (4, .int l4)] [.int s0] f 0 0 (pz_Q G C (some (.int r.1)) r.2 0 0) := by
  unfold fX10_readLives_155 at hf
  refine pz_istore_n hC dX10_readLives_155 (by decide) rfl ?_
  refine pz_iinc (v := (l4 + 1)) hC dX10_readLives_156 4 rfl rfl (by decide) rfl ?_
  refine pz_goto hC dX10_readLives_159 ?_
  refine pz_sub [2, 3, 4, 1, 0] rfl ?_
  exact hk43 _ _ _ _ _ _ hf
def fX10_readLives_150 (k43 : pz_H → Nat → Int32 → Int32 → Int32 → Int32 → Option (Int32 × pz_H)) (f : pz_H) (l0 : Nat) (l1 : Int32) (l2 : Int32) (l4 : Int32) : Option (Int32 × pz_H) :=
  fX10_readLives_155 k43 f l0 l1 l2 l4 ((1 : Int32))
theorem tX10_readLives_150 {G : pz_G} {C : pz_C} {f : pz_H} {k43 : pz_H → Nat → Int32 → Int32 → Int32 → Int32 → Option (Int32 × pz_H)} {l0 : Nat} {l1 : Int32} {l2 : Int32} {l4 : Int32} {r : (Int32 × pz_H)} (hC : pz_OK G C cX10_readLives 7 RX10) (hK : pz_K C (some .boolean) 2 45 0 0) (hk43 : ∀ (g : pz_H) (a0 : Nat) (a1 : Int32) (a2 : Int32) (a3 : Int32) (a4 : Int32), k43 g a0 a1 a2 a3 a4 = some r → pz_W G C 7 43 [(0, .ref a0), (1, .int a1), (2, .int a2), (3, .int a3), (4, .int a4)] [] g 0 0 (pz_Q G C (some (.int r.1)) r.2 0 0)) (hf : fX10_readLives_150 k43 f l0 l1 l2 l4 = some r) : pz_W G C 7 150 [(0, .ref l0), (1, .int l1), (2, .int l2), (4, .int l4)] [] f 0 0 (pz_Q G C (some (.int r.1)) r.2 0 0) := by
  unfold fX10_readLives_150 at hf
  refine pz_iconst (v := (1 : Int32)) hC dX10_readLives_150 (by decide) ?_
  refine pz_goto hC dX10_readLives_151 ?_
  exact tX10_readLives_155 hC hK hk43 hf
def fX10_readLives_154 (k43 : pz_H → Nat → Int32 → Int32 → Int32 → Int32 → Option (Int32 × pz_H)) (f : pz_H) (l0 : Nat) (l1 : Int32) (l2 : Int32) (l4 : Int32) : Option (Int32 × pz_H) :=
  fX10_readLives_155 k43 f l0 l1 l2 l4 ((0 : Int32))
theorem tX10_readLives_154 {G : pz_G} {C : pz_C} {f : pz_H} {k43 : pz_H → Nat → Int32 → Int32 → Int32 → Int32 → Option (Int32 × pz_H)} {l0 : Nat} {l1 : Int32} {l2 : Int32} {l4 : Int32} {r : (Int32 × pz_H)} (hC : pz_OK G C cX10_readLives 7 RX10) (hK : pz_K C (some .boolean) 2 45 0 0) (hk43 : ∀ (g : pz_H) (a0 : Nat) (a1 : Int32) (a2 : Int32) (a3 : Int32) (a4 : Int32), k43 g a0 a1 a2 a3 a4 = some r → pz_W G C 7 43 [(0, .ref a0), (1, .int a1), (2, .int a2), (3, .int a3), (4, .int a4)] [] g 0 0 (pz_Q G C (some (.int r.1)) r.2 0 0)) (hf : fX10_readLives_154 k43 f l0 l1 l2 l4 = some r) : pz_W G C 7 154 [(0, .ref l0), (1, .int l1), (2, .int l2), (4, .int l4)] [] f 0 0 (pz_Q G C (some (.int r.1)) r.2 0 0) := by
  unfold fX10_readLives_154 at hf
  refine pz_iconst (v := (0 : Int32)) hC dX10_readLives_154 (by decide) ?_
  exact tX10_readLives_155 hC hK hk43 hf
def fX10_readLives_128 (k43 : pz_H → Nat → Int32 → Int32 → Int32 → Int32 → Option (Int32 × pz_H)) (f : pz_H) (l0 : Nat) (l1 : Int32) (l2 : Int32) (l4 : Int32) (l5 : Int32) (l6 : Int32) : Option (Int32 × pz_H) :=
  (pz_gR f l0 9 21).bind fun v1 =>
  (pz_aI f v1 0 ((0 : Int32))).bind fun v2 =>
  if l5 ≤ v2 then fX10_readLives_150 k43 f l0 l1 l2 l4 else
  (pz_gR f l0 9 21).bind fun v3 =>
  (pz_aI f v3 0 ((1 : Int32))).bind fun v4 =>
  if v4 < l6 then fX10_readLives_154 k43 f l0 l1 l2 l4 else
  fX10_readLives_150 k43 f l0 l1 l2 l4
theorem tX10_readLives_128 {G : pz_G} {C : pz_C} {f : pz_H} {k43 : pz_H → Nat → Int32 → Int32 → Int32 → Int32 → Option (Int32 × pz_H)} {l0 : Nat} {l1 : Int32} {l2 : Int32} {l4 : Int32} {l5 : Int32} {l6 : Int32} {r : (Int32 × pz_H)} (hC : pz_OK G C cX10_readLives 7 RX10) (hK : pz_K C (some .boolean) 2 45 0 0) (hk43 : ∀ (g : pz_H) (a0 : Nat) (a1 : Int32) (a2 : Int32) (a3 : Int32) (a4 : Int32), k43 g a0 a1 a2 a3 a4 = some r → pz_W G C 7 43 [(0, .ref a0), (1, .int a1), (2, .int a2), (3, .int a3), (4, .int a4)] [] g 0 0 (pz_Q G C (some (.int r.1)) r.2 0 0)) (hf : fX10_readLives_128 k43 f l0 l1 l2 l4 l5 l6 = some r) : pz_W G C 7 128 [(0, .ref l0), (1, .int l1), (2, .int l2), (4, .int l4), (5, .int l5), (6, .int l6)] [] f 0 0 (pz_Q G C (some (.int r.1)) r.2 0 0) := by
  unfold fX10_readLives_128 at hf
  refine pz_iload hC dX10_readLives_128 4 rfl ?_
  refine pz_aload_n hC dX10_readLives_130 0 rfl ?_
  refine pz_getR hC dX10_readLives_131 fa_X10_41 hf (fun v1 hf => ?_)
  refine pz_iconst (v := (0 : Int32)) hC dX10_readLives_134 (by decide) ?_
  refine pz_iald hC dX10_readLives_135 hf (fun v2 hf => ?_)
  refine pz_icmp_le hC dX10_readLives_136 hf (fun _ hf => ?_) (fun _ hf => ?_)
  · refine pz_sub [0, 1, 2, 3] rfl ?_
    exact tX10_readLives_150 hC hK hk43 hf
  · refine pz_aload_n hC dX10_readLives_139 0 rfl ?_
    refine pz_getR hC dX10_readLives_140 fa_X10_41 hf (fun v3 hf => ?_)
    refine pz_iconst (v := (1 : Int32)) hC dX10_readLives_143 (by decide) ?_
    refine pz_iald hC dX10_readLives_144 hf (fun v4 hf => ?_)
    refine pz_iload hC dX10_readLives_145 5 rfl ?_
    refine pz_icmp_lt hC dX10_readLives_147 hf (fun _ hf => ?_) (fun _ hf => ?_)
    · refine pz_sub [0, 1, 2, 3] rfl ?_
      exact tX10_readLives_154 hC hK hk43 hf
    · refine pz_sub [0, 1, 2, 3] rfl ?_
      exact tX10_readLives_150 hC hK hk43 hf
def fX10_readLives_101 (k43 : pz_H → Nat → Int32 → Int32 → Int32 → Int32 → Option (Int32 × pz_H)) (f : pz_H) (l0 : Nat) (l1 : Int32) (l3 : Int32) (l4 : Int32) (l5 : Int32) (l6 : Int32) (s0 : Int32) : Option (Int32 × pz_H) :=
  if l3 = 0 then fX10_readLives_154 k43 f l0 l1 s0 l4 else
  (pz_gR f l0 9 21).bind fun v1 =>
  (pz_aI f v1 0 ((0 : Int32))).bind fun v2 =>
  if v2 ≤ l5 then fX10_readLives_128 k43 f l0 l1 s0 l4 l5 l6 else
  (pz_gR f l0 9 21).bind fun v3 =>
  (pz_aI f v3 0 ((1 : Int32))).bind fun v4 =>
  if l6 < v4 then fX10_readLives_154 k43 f l0 l1 s0 l4 else
  fX10_readLives_128 k43 f l0 l1 s0 l4 l5 l6
theorem tX10_readLives_101 {G : pz_G} {C : pz_C} {f : pz_H} {k43 : pz_H → Nat → Int32 → Int32 → Int32 → Int32 → Option (Int32 × pz_H)} {l0 : Nat} {l1 : Int32} {l3 : Int32} {l4 : Int32} {l5 : Int32} {l6 : Int32} {s0 : Int32} {r : (Int32 × pz_H)} (hC : pz_OK G C cX10_readLives 7 RX10) (hK : pz_K C (some .boolean) 2 45 0 0) (hk43 : ∀ (g : pz_H) (a0 : Nat) (a1 : Int32) (a2 : Int32) (a3 : Int32) (a4 : Int32), k43 g a0 a1 a2 a3 a4 = some r → pz_W G C 7 43 [(0, .ref a0), (1, .int a1), (2, .int a2), (3, .int a3), (4, .int a4)] [] g 0 0 (pz_Q G C (some (.int r.1)) r.2 0 0)) (hf : fX10_readLives_101 k43 f l0 l1 l3 l4 l5 l6 s0 = some r) : pz_W G C 7 101 [(0, .ref l0), (1, .int l1), (3, .int l3), (4, .int l4), (5, .int l5), (6, .int l6)] [.int s0] f 0 0 (pz_Q G C (some (.int r.1)) r.2 0 0) := by
  unfold fX10_readLives_101 at hf
  refine pz_istore_n hC dX10_readLives_101 (by decide) rfl ?_
  refine pz_iload_n hC dX10_readLives_102 3 rfl ?_
  refine pz_if_eq hC dX10_readLives_103 hf (fun _ hf => ?_) (fun _ hf => ?_)
  · refine pz_sub [1, 2, 0, 4] rfl ?_
    exact tX10_readLives_154 hC hK hk43 hf
  · refine pz_iload hC dX10_readLives_106 5 rfl ?_
    refine pz_aload_n hC dX10_readLives_108 1 rfl ?_
    refine pz_getR hC dX10_readLives_109 fa_X10_41 hf (fun v1 hf => ?_)
    refine pz_iconst (v := (0 : Int32)) hC dX10_readLives_112 (by decide) ?_
    refine pz_iald hC dX10_readLives_113 hf (fun v2 hf => ?_)
    refine pz_icmp_ge hC dX10_readLives_114 hf (fun _ hf => ?_) (fun _ hf => ?_)
    · refine pz_sub [1, 2, 0, 4, 5, 6] rfl ?_
      exact tX10_readLives_128 hC hK hk43 hf
    · refine pz_aload_n hC dX10_readLives_117 1 rfl ?_
      refine pz_getR hC dX10_readLives_118 fa_X10_41 hf (fun v3 hf => ?_)
      refine pz_iconst (v := (1 : Int32)) hC dX10_readLives_121 (by decide) ?_
      refine pz_iald hC dX10_readLives_122 hf (fun v4 hf => ?_)
      refine pz_iload hC dX10_readLives_123 6 rfl ?_
      refine pz_icmp_gt hC dX10_readLives_125 hf (fun _ hf => ?_) (fun _ hf => ?_)
      · refine pz_sub [1, 2, 0, 4] rfl ?_
        exact tX10_readLives_154 hC hK hk43 hf
      · refine pz_sub [1, 2, 0, 4, 5, 6] rfl ?_
        exact tX10_readLives_128 hC hK hk43 hf
def fX10_readLives_172 (f : pz_H) (l0 : Nat) (l1 : Int32) : Option (Int32 × pz_H) :=
  (fnX10_fails f l0 ((4 : Int32)) l1).bind fun x1 =>
  (pz_b x1.1).bind fun x => some (x, x1.2)
theorem tX10_readLives_172 {G : pz_G} {C : pz_C} {f : pz_H} {l0 : Nat} {l1 : Int32} {r : (Int32 × pz_H)} (hC : pz_OK G C cX10_readLives 7 RX10) (hK : pz_K C (some .boolean) 2 45 0 0) (hf : fX10_readLives_172 f l0 l1 = some r) : pz_W G C 7 172 [(0, .ref l0), (1, .int l1)] [] f 0 0 (pz_Q G C (some (.int r.1)) r.2 0 0) := by
  unfold fX10_readLives_172 at hf
  refine pz_aload_n hC dX10_readLives_172 0 rfl ?_
  refine pz_iconst (v := (4 : Int32)) hC dX10_readLives_173 (by decide) ?_
  refine pz_iload_n hC dX10_readLives_174 1 rfl ?_
  refine pz_Viw (As := [.int (4 : Int32), .int l1]) hC hK dX10_readLives_175 py_X10_fails pv_X10_fails lk_X10_231 hf (fun _ h => mX10_fails h) rfl rfl (Nat.le_of_ble_eq_true rfl) ⟨by decide, by decide⟩ ⟨by decide, by decide⟩ (fun x1 hf => ?_)
  exact pz_zretw hC hK dX10_readLives_178 hf
def fX10_readLives_201 (f : pz_H) (l0 : Nat) (l2 : Int32) (s0 : Int32) (s1 : Int32) (s2 : Int32) (s3 : Nat) : Option (Int32 × pz_H) :=
  (pz_tI f s3 0 s2 ((s1 + s0))).bind fun f1 =>
  (pz_gR f1 l0 9 1).bind fun v2 =>
  (pz_gR f1 l0 9 21).bind fun v3 =>
  (pz_aI f1 v3 0 ((0 : Int32))).bind fun v4 =>
  (pz_tI f1 v2 0 (((67 : Int32) + ((2 : Int32) * l2))) v4).bind fun f5 =>
  (pz_gR f5 l0 9 1).bind fun v6 =>
  (pz_gR f5 l0 9 21).bind fun v7 =>
  (pz_aI f5 v7 0 ((1 : Int32))).bind fun v8 =>
  (pz_tI f5 v6 0 ((((67 : Int32) + ((2 : Int32) * l2)) + (1 : Int32))) v8).bind fun f9 =>
  (pz_b ((1 : Int32))).bind fun x => some (x, f9)
theorem tX10_readLives_201 {G : pz_G} {C : pz_C} {f : pz_H} {l0 : Nat} {l2 : Int32} {s0 : Int32} {s1 : Int32} {s2 : Int32} {s3 : Nat} {r : (Int32 × pz_H)} (hC : pz_OK G C cX10_readLives 7 RX10) (hK : pz_K C (some .boolean) 2 45 0 0) (hf : fX10_readLives_201 f l0 l2 s0 s1 s2 s3 = some r) : pz_W G C 7 201 [(0, .ref l0), (2, .int l2)] [.int s0, .int s1, .int s2, .ref s3] f 0 0 (pz_Q G C (some (.int r.1)) r.2 0 0) := by
  unfold fX10_readLives_201 at hf
  refine pz_iadd hC dX10_readLives_201 ?_
  refine pz_iast hC dX10_readLives_202 hf (fun f1 hf => ?_)
  refine pz_aload_n hC dX10_readLives_203 0 rfl ?_
  refine pz_getR hC dX10_readLives_204 fa_X10_7 hf (fun v2 hf => ?_)
  refine pz_bipush (v := (67 : Int32)) hC dX10_readLives_207 (by decide) ?_
  refine pz_iconst (v := (2 : Int32)) hC dX10_readLives_209 (by decide) ?_
  refine pz_iload_n hC dX10_readLives_210 1 rfl ?_
  refine pz_imul hC dX10_readLives_211 ?_
  refine pz_iadd hC dX10_readLives_212 ?_
  refine pz_aload_n hC dX10_readLives_213 0 rfl ?_
  refine pz_getR hC dX10_readLives_214 fa_X10_41 hf (fun v3 hf => ?_)
  refine pz_iconst (v := (0 : Int32)) hC dX10_readLives_217 (by decide) ?_
  refine pz_iald hC dX10_readLives_218 hf (fun v4 hf => ?_)
  refine pz_iast hC dX10_readLives_219 hf (fun f5 hf => ?_)
  refine pz_aload_n hC dX10_readLives_220 0 rfl ?_
  refine pz_getR hC dX10_readLives_221 fa_X10_7 hf (fun v6 hf => ?_)
  refine pz_bipush (v := (67 : Int32)) hC dX10_readLives_224 (by decide) ?_
  refine pz_iconst (v := (2 : Int32)) hC dX10_readLives_226 (by decide) ?_
  refine pz_iload_n hC dX10_readLives_227 1 rfl ?_
  refine pz_imul hC dX10_readLives_228 ?_
  refine pz_iadd hC dX10_readLives_229 ?_
  refine pz_iconst (v := (1 : Int32)) hC dX10_readLives_230 (by decide) ?_
  refine pz_iadd hC dX10_readLives_231 ?_
  refine pz_aload_n hC dX10_readLives_232 0 rfl ?_
  refine pz_getR hC dX10_readLives_233 fa_X10_41 hf (fun v7 hf => ?_)
  refine pz_iconst (v := (1 : Int32)) hC dX10_readLives_236 (by decide) ?_
  refine pz_iald hC dX10_readLives_237 hf (fun v8 hf => ?_)
  refine pz_iast hC dX10_readLives_238 hf (fun f9 hf => ?_)
  refine pz_iconst (v := (1 : Int32)) hC dX10_readLives_239 (by decide) ?_
  exact pz_zretw hC hK dX10_readLives_240 hf
def fX10_readLives_43b (k43 : pz_H → Nat → Int32 → Int32 → Int32 → Int32 → Option (Int32 × pz_H)) (f : pz_H) (l0 : Nat) (l1 : Int32) (l2 : Int32) (l3 : Int32) (l4 : Int32) : Option (Int32 × pz_H) :=
  (pz_gR f l0 9 1).bind fun v1 =>
  (pz_aI f v1 0 ((5 : Int32))).bind fun v2 =>
  if v2 ≤ l4 then if l3 = 0 then fX10_readLives_172 f l0 l1 else
  if l2 = (10 : Int32) then fX10_readLives_172 f l0 l1 else
  (pz_gR f l0 9 1).bind fun v3 =>
  (pz_aI f v3 0 ((5 : Int32))).bind fun v4 =>
  (pz_gR f l0 9 1).bind fun v5 =>
  (pz_aI f v5 0 ((5 : Int32))).bind fun v6 =>
  if l2 = v6 then fX10_readLives_201 f l0 l2 ((1 : Int32)) v4 ((5 : Int32)) v3 else
  fX10_readLives_201 f l0 l2 ((0 : Int32)) v4 ((5 : Int32)) v3 else
  (pz_gR f l0 9 1).bind fun v7 =>
  (pz_aI f v7 0 (((67 : Int32) + ((2 : Int32) * l4)))).bind fun v8 =>
  (pz_gR f l0 9 1).bind fun v9 =>
  (pz_aI f v9 0 ((((67 : Int32) + ((2 : Int32) * l4)) + (1 : Int32)))).bind fun v10 =>
  (pz_gR f l0 9 21).bind fun v11 =>
  (pz_aI f v11 0 ((0 : Int32))).bind fun v12 =>
  if v8 = v12 then fX10_readLives_101 k43 f l0 l1 l3 l4 v8 v10 l4 else
  fX10_readLives_101 k43 f l0 l1 l3 l4 v8 v10 l2
theorem tX10_readLives_43b {G : pz_G} {C : pz_C} {f : pz_H} {k43 : pz_H → Nat → Int32 → Int32 → Int32 → Int32 → Option (Int32 × pz_H)} {l0 : Nat} {l1 : Int32} {l2 : Int32} {l3 : Int32} {l4 : Int32} {r : (Int32 × pz_H)} (hC : pz_OK G C cX10_readLives 7 RX10) (hK : pz_K C (some .boolean) 2 45 0 0) (hk43 : ∀ (g : pz_H) (a0 : Nat) (a1 : Int32) (a2 : Int32) (a3 : Int32) (a4 : Int32), k43 g a0 a1 a2 a3 a4 = some r → pz_W G C 7 43 [(0, .ref a0), (1, .int a1), (2, .int a2), (3, .int a3), (4, .int a4)] [] g 0 0 (pz_Q G C (some (.int r.1)) r.2 0 0)) (hf : fX10_readLives_43b k43 f l0 l1 l2 l3 l4 = some r) : pz_W G C 7 43 [(0, .ref l0), (1, .int l1), (2, .int l2), (3, .int l3), (4, .int l4)] [] f 0 0 (pz_Q G C (some (.int r.1)) r.2 0 0) := by
  unfold fX10_readLives_43b at hf
  refine pz_iload hC dX10_readLives_43 4 rfl ?_
  refine pz_aload_n hC dX10_readLives_45 0 rfl ?_
  refine pz_getR hC dX10_readLives_46 fa_X10_7 hf (fun v1 hf => ?_)
  refine pz_iconst (v := (5 : Int32)) hC dX10_readLives_49 (by decide) ?_
  refine pz_iald hC dX10_readLives_50 hf (fun v2 hf => ?_)
  refine pz_icmp_ge hC dX10_readLives_51 hf (fun _ hf => ?_) (fun _ hf => ?_)
  · refine pz_iload_n hC dX10_readLives_162 3 rfl ?_
    refine pz_if_eq hC dX10_readLives_163 hf (fun _ hf => ?_) (fun _ hf => ?_)
    · refine pz_sub [0, 1] rfl ?_
      exact tX10_readLives_172 hC hK hf
    · refine pz_iload_n hC dX10_readLives_166 2 rfl ?_
      refine pz_bipush (v := (10 : Int32)) hC dX10_readLives_167 (by decide) ?_
      refine pz_icmp_ne hC dX10_readLives_169 hf (fun _ hf => ?_) (fun _ hf => ?_)
      · refine pz_aload_n hC dX10_readLives_179 0 rfl ?_
        refine pz_getR hC dX10_readLives_180 fa_X10_7 hf (fun v3 hf => ?_)
        refine pz_iconst (v := (5 : Int32)) hC dX10_readLives_183 (by decide) ?_
        refine pz_dup2 hC dX10_readLives_184 rfl rfl ?_
        refine pz_iald hC dX10_readLives_185 hf (fun v4 hf => ?_)
        refine pz_iload_n hC dX10_readLives_186 2 rfl ?_
        refine pz_aload_n hC dX10_readLives_187 0 rfl ?_
        refine pz_getR hC dX10_readLives_188 fa_X10_7 hf (fun v5 hf => ?_)
        refine pz_iconst (v := (5 : Int32)) hC dX10_readLives_191 (by decide) ?_
        refine pz_iald hC dX10_readLives_192 hf (fun v6 hf => ?_)
        refine pz_icmp_ne hC dX10_readLives_193 hf (fun _ hf => ?_) (fun _ hf => ?_)
        · refine pz_iconst (v := (0 : Int32)) hC dX10_readLives_200 (by decide) ?_
          refine pz_sub [0, 2] rfl ?_
          exact tX10_readLives_201 hC hK hf
        · refine pz_iconst (v := (1 : Int32)) hC dX10_readLives_196 (by decide) ?_
          refine pz_goto hC dX10_readLives_197 ?_
          refine pz_sub [0, 2] rfl ?_
          exact tX10_readLives_201 hC hK hf
      · refine pz_sub [0, 1] rfl ?_
        exact tX10_readLives_172 hC hK hf
  · refine pz_aload_n hC dX10_readLives_54 0 rfl ?_
    refine pz_getR hC dX10_readLives_55 fa_X10_7 hf (fun v7 hf => ?_)
    refine pz_bipush (v := (67 : Int32)) hC dX10_readLives_58 (by decide) ?_
    refine pz_iconst (v := (2 : Int32)) hC dX10_readLives_60 (by decide) ?_
    refine pz_iload hC dX10_readLives_61 4 rfl ?_
    refine pz_imul hC dX10_readLives_63 ?_
    refine pz_iadd hC dX10_readLives_64 ?_
    refine pz_iald hC dX10_readLives_65 hf (fun v8 hf => ?_)
    refine pz_istore hC dX10_readLives_66 (by decide) rfl ?_
    refine pz_aload_n hC dX10_readLives_68 1 rfl ?_
    refine pz_getR hC dX10_readLives_69 fa_X10_7 hf (fun v9 hf => ?_)
    refine pz_bipush (v := (67 : Int32)) hC dX10_readLives_72 (by decide) ?_
    refine pz_iconst (v := (2 : Int32)) hC dX10_readLives_74 (by decide) ?_
    refine pz_iload hC dX10_readLives_75 5 rfl ?_
    refine pz_imul hC dX10_readLives_77 ?_
    refine pz_iadd hC dX10_readLives_78 ?_
    refine pz_iconst (v := (1 : Int32)) hC dX10_readLives_79 (by decide) ?_
    refine pz_iadd hC dX10_readLives_80 ?_
    refine pz_iald hC dX10_readLives_81 hf (fun v10 hf => ?_)
    refine pz_istore hC dX10_readLives_82 (by decide) rfl ?_
    refine pz_iload hC dX10_readLives_84 1 rfl ?_
    refine pz_aload_n hC dX10_readLives_86 2 rfl ?_
    refine pz_getR hC dX10_readLives_87 fa_X10_41 hf (fun v11 hf => ?_)
    refine pz_iconst (v := (0 : Int32)) hC dX10_readLives_90 (by decide) ?_
    refine pz_iald hC dX10_readLives_91 hf (fun v12 hf => ?_)
    refine pz_icmp_ne hC dX10_readLives_92 hf (fun _ hf => ?_) (fun _ hf => ?_)
    · refine pz_iload_n hC dX10_readLives_100 4 rfl ?_
      refine pz_sub [2, 3, 5, 6, 1, 0] rfl ?_
      exact tX10_readLives_101 hC hK hk43 hf
    · refine pz_iload hC dX10_readLives_95 6 rfl ?_
      refine pz_goto hC dX10_readLives_97 ?_
      refine pz_sub [2, 3, 5, 6, 1, 0] rfl ?_
      exact tX10_readLives_101 hC hK hk43 hf
def fX10_readLives_43 : Nat → pz_H → Nat → Int32 → Int32 → Int32 → Int32 → Option (Int32 × pz_H)
  | 0, _, _, _, _, _, _ => none
  | n + 1, f, l0, l1, l2, l3, l4 => fX10_readLives_43b (fX10_readLives_43 n) f l0 l1 l2 l3 l4
theorem tX10_readLives_43 {G : pz_G} {C : pz_C} {r : (Int32 × pz_H)} (hC : pz_OK G C cX10_readLives 7 RX10) (hK : pz_K C (some .boolean) 2 45 0 0) : ∀ (N : Nat) (f : pz_H) (l0 : Nat) (l1 : Int32) (l2 : Int32) (l3 : Int32) (l4 : Int32), fX10_readLives_43 N f l0 l1 l2 l3 l4 = some r → pz_W G C 7 43 [(0, .ref l0), (1, .int l1), (2, .int l2), (3, .int l3), (4, .int l4)] [] f 0 0 (pz_Q G C (some (.int r.1)) r.2 0 0) := by
  intro N
  induction N with
  | zero => intro f l0 l1 l2 l3 l4 hf; cases hf
  | succ N ih => intro f l0 l1 l2 l3 l4 hf; exact tX10_readLives_43b hC hK (fun f l0 l1 l2 l3 l4 hf => ih f l0 l1 l2 l3 l4 hf) hf
def fnX10_readLives (f : pz_H) (a0 : Nat) (p1 : Int32) : Option (Int32 × pz_H) :=
  (pz_is f a0 9).bind fun _ =>
  (fnX10_number f a0 ((0 : Int32)) ((1 : Int32)) ((119 : Int32))).bind fun x1 =>
  if x1.1 = 0 then fX10_readLives_29 x1.2 else
  (fnX10_number x1.2 a0 ((1 : Int32)) ((0 : Int32)) ((100000 : Int32))).bind fun x2 =>
  if x2.1 = 0 then fX10_readLives_29 x2.2 else
  (fnX10_ends x2.2 a0).bind fun x3 =>
  if x3.1 = 0 then fX10_readLives_29 x3.2 else
  (pz_gR x3.2 a0 9 1).bind fun v4 =>
  (pz_aI x3.2 v4 0 ((5 : Int32))).bind fun v5 =>
  fX10_readLives_43 pz_F x3.2 a0 p1 v5 ((1 : Int32)) ((0 : Int32))
theorem mX10_readLives {l : Launch} {G : pz_G} {f : pz_H} {a0 : Nat} {p1 : Int32} {r : (Int32 × pz_H)} (hf : fnX10_readLives f a0 p1 = some r) : pz_Met l G yX10_readLives cX10_readLives 7 (some .boolean) 2 45 0 0 [.ref a0, .int p1] f (some (.int r.1)) r.2 ∧ pz_is f a0 9 = some () := by
  unfold fnX10_readLives at hf
  obtain ⟨_, h0, hf⟩ := pz_bd hf
  refine ⟨pz_enter (by decide +kernel) (Nat.le_of_ble_eq_true rfl) (fun C hl hC hK hnm => ?_), h0⟩
  subst hl
  refine pz_sub (lv' := [(0, .ref a0), (1, .int p1)]) [0, 1] rfl ?_
  refine pz_aload_n hC dX10_readLives_0 0 rfl ?_
  refine pz_iconst (v := (0 : Int32)) hC dX10_readLives_1 (by decide) ?_
  refine pz_iconst (v := (1 : Int32)) hC dX10_readLives_2 (by decide) ?_
  refine pz_bipush (v := (119 : Int32)) hC dX10_readLives_3 (by decide) ?_
  refine pz_Viw (As := [.int (0 : Int32), .int (1 : Int32), .int (119 : Int32)]) hC hK dX10_readLives_5 py_X10_number pv_X10_number lk_X10_240 hf (fun _ h => mX10_number h) rfl rfl (Nat.le_of_ble_eq_true rfl) ⟨by decide, by decide⟩ ⟨by decide, by decide⟩ (fun x1 hf => ?_)
  refine pz_if_eq hC dX10_readLives_8 hf (fun _ hf => ?_) (fun _ hf => ?_)
  · refine pz_sub [] rfl ?_
    exact tX10_readLives_29 hC hK hf
  · refine pz_aload_n hC dX10_readLives_11 0 rfl ?_
    refine pz_iconst (v := (1 : Int32)) hC dX10_readLives_12 (by decide) ?_
    refine pz_iconst (v := (0 : Int32)) hC dX10_readLives_13 (by decide) ?_
    refine pz_ldc hC dX10_readLives_14 ck_X10_102 ?_
    refine pz_Viw (As := [.int (1 : Int32), .int (0 : Int32), .int (100000 : Int32)]) hC hK dX10_readLives_16 py_X10_number pv_X10_number lk_X10_240 hf (fun _ h => mX10_number h) rfl rfl (Nat.le_of_ble_eq_true rfl) ⟨by decide, by decide⟩ ⟨by decide, by decide⟩ (fun x2 hf => ?_)
    refine pz_if_eq hC dX10_readLives_19 hf (fun _ hf => ?_) (fun _ hf => ?_)
    · refine pz_sub [] rfl ?_
      exact tX10_readLives_29 hC hK hf
    · refine pz_aload_n hC dX10_readLives_22 0 rfl ?_
      refine pz_Viw (As := []) hC hK dX10_readLives_23 py_X10_ends pv_X10_ends lk_X10_251 hf (fun _ h => mX10_ends h) rfl rfl (Nat.le_of_ble_eq_true rfl) ⟨by decide, by decide⟩ ⟨by decide, by decide⟩ (fun x3 hf => ?_)
      refine pz_if_ne hC dX10_readLives_26 hf (fun _ hf => ?_) (fun _ hf => ?_)
      · refine pz_aload_n hC dX10_readLives_31 0 rfl ?_
        refine pz_getR hC dX10_readLives_32 fa_X10_7 hf (fun v4 hf => ?_)
        refine pz_iconst (v := (5 : Int32)) hC dX10_readLives_35 (by decide) ?_
        refine pz_iald hC dX10_readLives_36 hf (fun v5 hf => ?_)
        refine pz_istore_n hC dX10_readLives_37 (by decide) rfl ?_
        refine pz_iconst (v := (1 : Int32)) hC dX10_readLives_38 (by decide) ?_
        refine pz_istore_n hC dX10_readLives_39 (by decide) rfl ?_
        refine pz_iconst (v := (0 : Int32)) hC dX10_readLives_40 (by decide) ?_
        refine pz_istore hC dX10_readLives_41 (by decide) rfl ?_
        refine pz_sub [3, 4, 2, 1, 0] rfl ?_
        exact tX10_readLives_43 hC hK _ _ _ _ _ _ _ hf
      · refine pz_sub [] rfl ?_
        exact tX10_readLives_29 hC hK hf
def fX10_readOfSpouse_32 (f : pz_H) : Option (Int32 × pz_H) :=
  (pz_b ((0 : Int32))).bind fun x => some (x, f)
theorem tX10_readOfSpouse_32 {G : pz_G} {C : pz_C} {f : pz_H} {r : (Int32 × pz_H)} (hC : pz_OK G C cX10_readOfSpouse 4 RX10) (hK : pz_K C (some .boolean) 4 87 0 0) (hf : fX10_readOfSpouse_32 f = some r) : pz_W G C 4 32 [] [] f 0 0 (pz_Q G C (some (.int r.1)) r.2 0 0) := by
  unfold fX10_readOfSpouse_32 at hf
  refine pz_iconst (v := (0 : Int32)) hC dX10_readOfSpouse_32 (by decide) ?_
  exact pz_zretw hC hK dX10_readOfSpouse_33 hf
def fnX10_readOfSpouse (f : pz_H) (a0 : Nat) (p1 : Int32) (p2 : Int32) : Option (Int32 × pz_H) :=
  (pz_is f a0 9).bind fun _ =>
  (pz_gR f a0 9 1).bind fun v1 =>
  (pz_aI f v1 0 ((4 : Int32))).bind fun v2 =>
  (fnX10_number f a0 ((0 : Int32)) ((0 : Int32)) ((v2 - (1 : Int32)))).bind fun x3 =>
  if x3.1 = 0 then fX10_readOfSpouse_32 x3.2 else
  (fnX10_month x3.2 a0 ((1 : Int32))).bind fun x4 =>
  if x4.1 = 0 then fX10_readOfSpouse_32 x4.2 else
  (fnX10_ends x4.2 a0).bind fun x5 =>
  if x5.1 = 0 then fX10_readOfSpouse_32 x5.2 else
  (pz_gR x5.2 a0 9 21).bind fun v6 =>
  (pz_aI x5.2 v6 0 ((0 : Int32))).bind fun v7 =>
  (pz_gR x5.2 a0 9 21).bind fun v8 =>
  (pz_aI x5.2 v8 0 ((1 : Int32))).bind fun v9 =>
  (fnX10_placeOf x5.2 a0 p2 v7 v9).bind fun x10 =>
  if x10 = ((-1) : Int32) then (fnX10_fails x5.2 a0 ((4 : Int32)) p1).bind fun x15 =>
  (pz_b x15.1).bind fun x => some (x, x15.2) else
  (pz_gR x5.2 a0 9 1).bind fun v11 =>
  (pz_gR x5.2 a0 9 21).bind fun v12 =>
  (pz_aI x5.2 v12 0 ((1 : Int32))).bind fun v13 =>
  (pz_tI x5.2 v11 0 x10 v13).bind fun f14 =>
  (pz_b ((1 : Int32))).bind fun x => some (x, f14)
theorem mX10_readOfSpouse {l : Launch} {G : pz_G} {f : pz_H} {a0 : Nat} {p1 : Int32} {p2 : Int32} {r : (Int32 × pz_H)} (hf : fnX10_readOfSpouse f a0 p1 p2 = some r) : pz_Met l G yX10_readOfSpouse cX10_readOfSpouse 4 (some .boolean) 4 87 0 0 [.ref a0, .int p1, .int p2] f (some (.int r.1)) r.2 ∧ pz_is f a0 9 = some () := by
  unfold fnX10_readOfSpouse at hf
  obtain ⟨_, h0, hf⟩ := pz_bd hf
  refine ⟨pz_enter (by decide +kernel) (Nat.le_of_ble_eq_true rfl) (fun C hl hC hK hnm => ?_), h0⟩
  subst hl
  refine pz_sub (lv' := [(0, .ref a0), (1, .int p1), (2, .int p2)]) [0, 1, 2] rfl ?_
  refine pz_aload_n hC dX10_readOfSpouse_0 0 rfl ?_
  refine pz_iconst (v := (0 : Int32)) hC dX10_readOfSpouse_1 (by decide) ?_
  refine pz_iconst (v := (0 : Int32)) hC dX10_readOfSpouse_2 (by decide) ?_
  refine pz_aload_n hC dX10_readOfSpouse_3 0 rfl ?_
  refine pz_getR hC dX10_readOfSpouse_4 fa_X10_7 hf (fun v1 hf => ?_)
  refine pz_iconst (v := (4 : Int32)) hC dX10_readOfSpouse_7 (by decide) ?_
  refine pz_iald hC dX10_readOfSpouse_8 hf (fun v2 hf => ?_)
  refine pz_iconst (v := (1 : Int32)) hC dX10_readOfSpouse_9 (by decide) ?_
  refine pz_isub hC dX10_readOfSpouse_10 ?_
  refine pz_Viw (As := [.int (0 : Int32), .int (0 : Int32), .int (v2 - (1 : Int32))]) hC hK dX10_readOfSpouse_11 py_X10_number pv_X10_number lk_X10_240 hf (fun _ h => mX10_number h) rfl rfl (Nat.le_of_ble_eq_true rfl) ⟨by decide, by decide⟩ ⟨by decide, by decide⟩ (fun x3 hf => ?_)
  refine pz_if_eq hC dX10_readOfSpouse_14 hf (fun _ hf => ?_) (fun _ hf => ?_)
  · refine pz_sub [] rfl ?_
    exact tX10_readOfSpouse_32 hC hK hf
  · refine pz_aload_n hC dX10_readOfSpouse_17 0 rfl ?_
    refine pz_iconst (v := (1 : Int32)) hC dX10_readOfSpouse_18 (by decide) ?_
    refine pz_Viw (As := [.int (1 : Int32)]) hC hK dX10_readOfSpouse_19 py_X10_month pv_X10_month lk_X10_247 hf (fun _ h => mX10_month h) rfl rfl (Nat.le_of_ble_eq_true rfl) ⟨by decide, by decide⟩ ⟨by decide, by decide⟩ (fun x4 hf => ?_)
    refine pz_if_eq hC dX10_readOfSpouse_22 hf (fun _ hf => ?_) (fun _ hf => ?_)
    · refine pz_sub [] rfl ?_
      exact tX10_readOfSpouse_32 hC hK hf
    · refine pz_aload_n hC dX10_readOfSpouse_25 0 rfl ?_
      refine pz_Viw (As := []) hC hK dX10_readOfSpouse_26 py_X10_ends pv_X10_ends lk_X10_251 hf (fun _ h => mX10_ends h) rfl rfl (Nat.le_of_ble_eq_true rfl) ⟨by decide, by decide⟩ ⟨by decide, by decide⟩ (fun x5 hf => ?_)
      refine pz_if_ne hC dX10_readOfSpouse_29 hf (fun _ hf => ?_) (fun _ hf => ?_)
      · refine pz_aload_n hC dX10_readOfSpouse_34 0 rfl ?_
        refine pz_iload_n hC dX10_readOfSpouse_35 2 rfl ?_
        refine pz_aload_n hC dX10_readOfSpouse_36 0 rfl ?_
        refine pz_getR hC dX10_readOfSpouse_37 fa_X10_41 hf (fun v6 hf => ?_)
        refine pz_iconst (v := (0 : Int32)) hC dX10_readOfSpouse_40 (by decide) ?_
        refine pz_iald hC dX10_readOfSpouse_41 hf (fun v7 hf => ?_)
        refine pz_aload_n hC dX10_readOfSpouse_42 0 rfl ?_
        refine pz_getR hC dX10_readOfSpouse_43 fa_X10_41 hf (fun v8 hf => ?_)
        refine pz_iconst (v := (1 : Int32)) hC dX10_readOfSpouse_46 (by decide) ?_
        refine pz_iald hC dX10_readOfSpouse_47 hf (fun v9 hf => ?_)
        refine pz_Vi (As := [.int p2, .int v7, .int v9]) hC hK dX10_readOfSpouse_48 py_X10_placeOf pv_X10_placeOf lk_X10_211 hf (fun _ h => mX10_placeOf h) rfl rfl (Nat.le_of_ble_eq_true rfl) ⟨by decide, by decide⟩ ⟨by decide, by decide⟩ (fun x10 hf => ?_)
        refine pz_istore_n hC dX10_readOfSpouse_51 (by decide) rfl ?_
        refine pz_iload_n hC dX10_readOfSpouse_52 0 rfl ?_
        refine pz_iconst (v := ((-1) : Int32)) hC dX10_readOfSpouse_53 (by decide) ?_
        refine pz_icmp_ne hC dX10_readOfSpouse_54 hf (fun _ hf => ?_) (fun _ hf => ?_)
        · refine pz_aload_n hC dX10_readOfSpouse_64 1 rfl ?_
          refine pz_getR hC dX10_readOfSpouse_65 fa_X10_7 hf (fun v11 hf => ?_)
          refine pz_iload_n hC dX10_readOfSpouse_68 0 rfl ?_
          refine pz_aload_n hC dX10_readOfSpouse_69 1 rfl ?_
          refine pz_getR hC dX10_readOfSpouse_70 fa_X10_41 hf (fun v12 hf => ?_)
          refine pz_iconst (v := (1 : Int32)) hC dX10_readOfSpouse_73 (by decide) ?_
          refine pz_iald hC dX10_readOfSpouse_74 hf (fun v13 hf => ?_)
          refine pz_iast hC dX10_readOfSpouse_75 hf (fun f14 hf => ?_)
          refine pz_iconst (v := (1 : Int32)) hC dX10_readOfSpouse_76 (by decide) ?_
          exact pz_zretw hC hK dX10_readOfSpouse_77 hf
        · refine pz_aload_n hC dX10_readOfSpouse_57 1 rfl ?_
          refine pz_iconst (v := (4 : Int32)) hC dX10_readOfSpouse_58 (by decide) ?_
          refine pz_iload_n hC dX10_readOfSpouse_59 2 rfl ?_
          refine pz_Viw (As := [.int (4 : Int32), .int p1]) hC hK dX10_readOfSpouse_60 py_X10_fails pv_X10_fails lk_X10_231 hf (fun _ h => mX10_fails h) rfl rfl (Nat.le_of_ble_eq_true rfl) ⟨by decide, by decide⟩ ⟨by decide, by decide⟩ (fun x15 hf => ?_)
          exact pz_zretw hC hK dX10_readOfSpouse_63 hf
      · refine pz_sub [] rfl ?_
        exact tX10_readOfSpouse_32 hC hK hf
def fX10_readOne_35 (f : pz_H) : Option (Int32 × pz_H) :=
  (pz_b ((0 : Int32))).bind fun x => some (x, f)
theorem tX10_readOne_35 {G : pz_G} {C : pz_C} {f : pz_H} {r : (Int32 × pz_H)} (hC : pz_OK G C cX10_readOne 4 RX10) (hK : pz_K C (some .boolean) 4 87 0 0) (hf : fX10_readOne_35 f = some r) : pz_W G C 4 35 [] [] f 0 0 (pz_Q G C (some (.int r.1)) r.2 0 0) := by
  unfold fX10_readOne_35 at hf
  refine pz_iconst (v := (0 : Int32)) hC dX10_readOne_35 (by decide) ?_
  exact pz_zretw hC hK dX10_readOne_36 hf
def fX10_readOne_22 (f : pz_H) (l0 : Nat) (l1 : Int32) (l2 : Int32) (s0 : Int32) (s1 : Int32) (s2 : Int32) (s3 : Nat) : Option (Int32 × pz_H) :=
  (fnX10_number f s3 s2 s1 s0).bind fun x1 =>
  if x1.1 = 0 then fX10_readOne_35 x1.2 else
  (fnX10_ends x1.2 l0).bind fun x2 =>
  if x2.1 = 0 then fX10_readOne_35 x2.2 else
  (pz_gR x2.2 l0 9 21).bind fun v3 =>
  (pz_aI x2.2 v3 0 ((0 : Int32))).bind fun v4 =>
  (fnX10_placeOf x2.2 l0 l2 ((0 : Int32)) v4).bind fun x5 =>
  if x5 = ((-1) : Int32) then (fnX10_fails x2.2 l0 ((4 : Int32)) l1).bind fun x10 =>
  (pz_b x10.1).bind fun x => some (x, x10.2) else
  (pz_gR x2.2 l0 9 1).bind fun v6 =>
  (pz_gR x2.2 l0 9 21).bind fun v7 =>
  (pz_aI x2.2 v7 0 ((0 : Int32))).bind fun v8 =>
  (pz_tI x2.2 v6 0 x5 v8).bind fun f9 =>
  (pz_b ((1 : Int32))).bind fun x => some (x, f9)
theorem tX10_readOne_22 {G : pz_G} {C : pz_C} {f : pz_H} {l0 : Nat} {l1 : Int32} {l2 : Int32} {s0 : Int32} {s1 : Int32} {s2 : Int32} {s3 : Nat} {r : (Int32 × pz_H)} (hC : pz_OK G C cX10_readOne 4 RX10) (hK : pz_K C (some .boolean) 4 87 0 0) (hf : fX10_readOne_22 f l0 l1 l2 s0 s1 s2 s3 = some r) : pz_W G C 4 22 [(0, .ref l0), (1, .int l1), (2, .int l2)] [.int s0, .int s1, .int s2, .ref s3] f 0 0 (pz_Q G C (some (.int r.1)) r.2 0 0) := by
  unfold fX10_readOne_22 at hf
  refine pz_Viw (As := [.int s2, .int s1, .int s0]) hC hK dX10_readOne_22 py_X10_number pv_X10_number lk_X10_240 hf (fun _ h => mX10_number h) rfl rfl (Nat.le_of_ble_eq_true rfl) ⟨by decide, by decide⟩ ⟨by decide, by decide⟩ (fun x1 hf => ?_)
  refine pz_if_eq hC dX10_readOne_25 hf (fun _ hf => ?_) (fun _ hf => ?_)
  · refine pz_sub [] rfl ?_
    exact tX10_readOne_35 hC hK hf
  · refine pz_aload_n hC dX10_readOne_28 0 rfl ?_
    refine pz_Viw (As := []) hC hK dX10_readOne_29 py_X10_ends pv_X10_ends lk_X10_251 hf (fun _ h => mX10_ends h) rfl rfl (Nat.le_of_ble_eq_true rfl) ⟨by decide, by decide⟩ ⟨by decide, by decide⟩ (fun x2 hf => ?_)
    refine pz_if_ne hC dX10_readOne_32 hf (fun _ hf => ?_) (fun _ hf => ?_)
    · refine pz_aload_n hC dX10_readOne_37 0 rfl ?_
      refine pz_iload_n hC dX10_readOne_38 2 rfl ?_
      refine pz_iconst (v := (0 : Int32)) hC dX10_readOne_39 (by decide) ?_
      refine pz_aload_n hC dX10_readOne_40 0 rfl ?_
      refine pz_getR hC dX10_readOne_41 fa_X10_41 hf (fun v3 hf => ?_)
      refine pz_iconst (v := (0 : Int32)) hC dX10_readOne_44 (by decide) ?_
      refine pz_iald hC dX10_readOne_45 hf (fun v4 hf => ?_)
      refine pz_Vi (As := [.int l2, .int (0 : Int32), .int v4]) hC hK dX10_readOne_46 py_X10_placeOf pv_X10_placeOf lk_X10_211 hf (fun _ h => mX10_placeOf h) rfl rfl (Nat.le_of_ble_eq_true rfl) ⟨by decide, by decide⟩ ⟨by decide, by decide⟩ (fun x5 hf => ?_)
      refine pz_istore_n hC dX10_readOne_49 (by decide) rfl ?_
      refine pz_iload_n hC dX10_readOne_50 0 rfl ?_
      refine pz_iconst (v := ((-1) : Int32)) hC dX10_readOne_51 (by decide) ?_
      refine pz_icmp_ne hC dX10_readOne_52 hf (fun _ hf => ?_) (fun _ hf => ?_)
      · refine pz_aload_n hC dX10_readOne_62 1 rfl ?_
        refine pz_getR hC dX10_readOne_63 fa_X10_7 hf (fun v6 hf => ?_)
        refine pz_iload_n hC dX10_readOne_66 0 rfl ?_
        refine pz_aload_n hC dX10_readOne_67 1 rfl ?_
        refine pz_getR hC dX10_readOne_68 fa_X10_41 hf (fun v7 hf => ?_)
        refine pz_iconst (v := (0 : Int32)) hC dX10_readOne_71 (by decide) ?_
        refine pz_iald hC dX10_readOne_72 hf (fun v8 hf => ?_)
        refine pz_iast hC dX10_readOne_73 hf (fun f9 hf => ?_)
        refine pz_iconst (v := (1 : Int32)) hC dX10_readOne_74 (by decide) ?_
        exact pz_zretw hC hK dX10_readOne_75 hf
      · refine pz_aload_n hC dX10_readOne_55 1 rfl ?_
        refine pz_iconst (v := (4 : Int32)) hC dX10_readOne_56 (by decide) ?_
        refine pz_iload_n hC dX10_readOne_57 2 rfl ?_
        refine pz_Viw (As := [.int (4 : Int32), .int l1]) hC hK dX10_readOne_58 py_X10_fails pv_X10_fails lk_X10_231 hf (fun _ h => mX10_fails h) rfl rfl (Nat.le_of_ble_eq_true rfl) ⟨by decide, by decide⟩ ⟨by decide, by decide⟩ (fun x10 hf => ?_)
        exact pz_zretw hC hK dX10_readOne_61 hf
    · refine pz_sub [] rfl ?_
      exact tX10_readOne_35 hC hK hf
def fnX10_readOne (f : pz_H) (a0 : Nat) (p1 : Int32) (p2 : Int32) : Option (Int32 × pz_H) :=
  (pz_is f a0 9).bind fun _ =>
  if (10 : Int32) ≤ p2 then (fnX10_mostOf ((p2 - (10 : Int32)))).bind fun x1 =>
  fX10_readOne_22 f a0 p1 p2 x1 ((0 : Int32)) ((0 : Int32)) a0 else
  fX10_readOne_22 f a0 p1 p2 ((1799 : Int32)) ((0 : Int32)) ((0 : Int32)) a0
theorem mX10_readOne {l : Launch} {G : pz_G} {f : pz_H} {a0 : Nat} {p1 : Int32} {p2 : Int32} {r : (Int32 × pz_H)} (hf : fnX10_readOne f a0 p1 p2 = some r) : pz_Met l G yX10_readOne cX10_readOne 4 (some .boolean) 4 87 0 0 [.ref a0, .int p1, .int p2] f (some (.int r.1)) r.2 ∧ pz_is f a0 9 = some () := by
  unfold fnX10_readOne at hf
  obtain ⟨_, h0, hf⟩ := pz_bd hf
  refine ⟨pz_enter (by decide +kernel) (Nat.le_of_ble_eq_true rfl) (fun C hl hC hK hnm => ?_), h0⟩
  subst hl
  refine pz_sub (lv' := [(0, .ref a0), (1, .int p1), (2, .int p2)]) [0, 1, 2] rfl ?_
  refine pz_aload_n hC dX10_readOne_0 0 rfl ?_
  refine pz_iconst (v := (0 : Int32)) hC dX10_readOne_1 (by decide) ?_
  refine pz_iconst (v := (0 : Int32)) hC dX10_readOne_2 (by decide) ?_
  refine pz_iload_n hC dX10_readOne_3 2 rfl ?_
  refine pz_bipush (v := (10 : Int32)) hC dX10_readOne_4 (by decide) ?_
  refine pz_icmp_ge hC dX10_readOne_6 hf (fun _ hf => ?_) (fun _ hf => ?_)
  · refine pz_iload_n hC dX10_readOne_15 2 rfl ?_
    refine pz_bipush (v := (10 : Int32)) hC dX10_readOne_16 (by decide) ?_
    refine pz_isub hC dX10_readOne_18 ?_
    refine pz_Si (As := [.int (p2 - (10 : Int32))]) hC hK dX10_readOne_19 py_X10_mostOf ps_X10_mostOf lk_X10_205 hf (fun _ h => mX10_mostOf h) rfl rfl (Nat.le_of_ble_eq_true rfl) ⟨by decide, by decide⟩ ⟨by decide, by decide⟩ (fun x1 hf => ?_)
    exact tX10_readOne_22 hC hK hf
  · refine pz_sipush (v := (1799 : Int32)) hC dX10_readOne_9 (by decide) ?_
    refine pz_goto hC dX10_readOne_12 ?_
    exact tX10_readOne_22 hC hK hf
def fX10_readBorn_15 (f : pz_H) : Option (Int32 × pz_H) :=
  (pz_b ((0 : Int32))).bind fun x => some (x, f)
theorem tX10_readBorn_15 {G : pz_G} {C : pz_C} {f : pz_H} {r : (Int32 × pz_H)} (hC : pz_OK G C cX10_readBorn 1 RX10) (hK : pz_K C (some .boolean) 3 66 0 0) (hf : fX10_readBorn_15 f = some r) : pz_W G C 1 15 [] [] f 0 0 (pz_Q G C (some (.int r.1)) r.2 0 0) := by
  unfold fX10_readBorn_15 at hf
  refine pz_iconst (v := (0 : Int32)) hC dX10_readBorn_15 (by decide) ?_
  exact pz_zretw hC hK dX10_readBorn_16 hf
def fnX10_readBorn (f : pz_H) (a0 : Nat) : Option (Int32 × pz_H) :=
  (pz_is f a0 9).bind fun _ =>
  (fnX10_month f a0 ((0 : Int32))).bind fun x1 =>
  if x1.1 = 0 then fX10_readBorn_15 x1.2 else
  (fnX10_ends x1.2 a0).bind fun x2 =>
  if x2.1 = 0 then fX10_readBorn_15 x2.2 else
  (pz_gR x2.2 a0 9 21).bind fun v3 =>
  (pz_aI x2.2 v3 0 ((0 : Int32))).bind fun v4 =>
  (fnX10_begins x2.2 a0 v4).bind fun x5 =>
  (pz_b ((1 : Int32))).bind fun x => some (x, x5)
theorem mX10_readBorn {l : Launch} {G : pz_G} {f : pz_H} {a0 : Nat} {r : (Int32 × pz_H)} (hf : fnX10_readBorn f a0 = some r) : pz_Met l G yX10_readBorn cX10_readBorn 1 (some .boolean) 3 66 0 0 [.ref a0] f (some (.int r.1)) r.2 ∧ pz_is f a0 9 = some () := by
  unfold fnX10_readBorn at hf
  obtain ⟨_, h0, hf⟩ := pz_bd hf
  refine ⟨pz_enter (by decide +kernel) (Nat.le_of_ble_eq_true rfl) (fun C hl hC hK hnm => ?_), h0⟩
  subst hl
  refine pz_sub (lv' := [(0, .ref a0)]) [0] rfl ?_
  refine pz_aload_n hC dX10_readBorn_0 0 rfl ?_
  refine pz_iconst (v := (0 : Int32)) hC dX10_readBorn_1 (by decide) ?_
  refine pz_Viw (As := [.int (0 : Int32)]) hC hK dX10_readBorn_2 py_X10_month pv_X10_month lk_X10_247 hf (fun _ h => mX10_month h) rfl rfl (Nat.le_of_ble_eq_true rfl) ⟨by decide, by decide⟩ ⟨by decide, by decide⟩ (fun x1 hf => ?_)
  refine pz_if_eq hC dX10_readBorn_5 hf (fun _ hf => ?_) (fun _ hf => ?_)
  · refine pz_sub [] rfl ?_
    exact tX10_readBorn_15 hC hK hf
  · refine pz_aload_n hC dX10_readBorn_8 0 rfl ?_
    refine pz_Viw (As := []) hC hK dX10_readBorn_9 py_X10_ends pv_X10_ends lk_X10_251 hf (fun _ h => mX10_ends h) rfl rfl (Nat.le_of_ble_eq_true rfl) ⟨by decide, by decide⟩ ⟨by decide, by decide⟩ (fun x2 hf => ?_)
    refine pz_if_ne hC dX10_readBorn_12 hf (fun _ hf => ?_) (fun _ hf => ?_)
    · refine pz_aload_n hC dX10_readBorn_17 0 rfl ?_
      refine pz_aload_n hC dX10_readBorn_18 0 rfl ?_
      refine pz_getR hC dX10_readBorn_19 fa_X10_41 hf (fun v3 hf => ?_)
      refine pz_iconst (v := (0 : Int32)) hC dX10_readBorn_22 (by decide) ?_
      refine pz_iald hC dX10_readBorn_23 hf (fun v4 hf => ?_)
      refine pz_Vv (As := [.int v4]) hC hK dX10_readBorn_24 py_X10_begins pv_X10_begins lk_X10_44 hf (fun _ h => mX10_begins h) rfl rfl (Nat.le_of_ble_eq_true rfl) ⟨by decide, by decide⟩ ⟨by decide, by decide⟩ (fun x5 hf => ?_)
      refine pz_iconst (v := (1 : Int32)) hC dX10_readBorn_27 (by decide) ?_
      exact pz_zretw hC hK dX10_readBorn_28 hf
    · refine pz_sub [] rfl ?_
      exact tX10_readBorn_15 hC hK hf
def fX10_termOf_66 (s0 : Int32) : Option Int32 :=
  some s0
theorem tX10_termOf_66 {G : pz_G} {C : pz_C} {f : pz_H} {s0 : Int32} {r : Int32} (hC : pz_OK G C cX10_termOf 2 RX10) (hK : pz_K C (some .int) 0 0 0 0) (hf : fX10_termOf_66 s0 = some r) : pz_W G C 2 66 [] [.int s0] f 0 0 (pz_Q G C (some (.int r)) f 0 0) := by
  unfold fX10_termOf_66 at hf
  exact pz_iret hC hK dX10_termOf_66 hf
def fnX10_termOf (p0 : Int64) : Option Int32 :=
  if (lg_cmp p0 ((11817 : Int64))) = 0 then fX10_termOf_66 ((10 : Int32)) else
  if (lg_cmp p0 ((209220123 : Int64))) = 0 then fX10_termOf_66 ((11 : Int32)) else
  if (lg_cmp p0 ((2690359 : Int64))) = 0 then fX10_termOf_66 ((12 : Int32)) else
  if (lg_cmp p0 ((70309 : Int64))) = 0 then fX10_termOf_66 ((13 : Int32)) else
  if (lg_cmp p0 ((99857059490 : Int64))) = 0 then fX10_termOf_66 ((14 : Int32)) else
  fX10_termOf_66 (((-1) : Int32))
theorem mX10_termOf {l : Launch} {G : pz_G} {f : pz_H} {p0 : Int64} {r : Int32} (hf : fnX10_termOf p0 = some r) : pz_Met l G yX10_termOf cX10_termOf 2 (some .int) 0 0 0 0 [.long p0] f (some (.int r)) f := by
  unfold fnX10_termOf at hf
  refine pz_enter (by decide +kernel) (Nat.le_of_ble_eq_true rfl) (fun C hl hC hK hnm => ?_)
  subst hl
  refine pz_sub (lv' := [(0, .long p0)]) [0] rfl ?_
  refine pz_lload_n hC dX10_termOf_0 0 rfl ?_
  refine pz_ldc2 hC dX10_termOf_1 ck_X10_263 ?_
  refine pz_lcmp hC dX10_termOf_4 ?_
  refine pz_if_ne hC dX10_termOf_5 hf (fun _ hf => ?_) (fun _ hf => ?_)
  · refine pz_lload_n hC dX10_termOf_13 0 rfl ?_
    refine pz_ldc2 hC dX10_termOf_14 ck_X10_265 ?_
    refine pz_lcmp hC dX10_termOf_17 ?_
    refine pz_if_ne hC dX10_termOf_18 hf (fun _ hf => ?_) (fun _ hf => ?_)
    · refine pz_lload_n hC dX10_termOf_26 0 rfl ?_
      refine pz_ldc2 hC dX10_termOf_27 ck_X10_267 ?_
      refine pz_lcmp hC dX10_termOf_30 ?_
      refine pz_if_ne hC dX10_termOf_31 hf (fun _ hf => ?_) (fun _ hf => ?_)
      · refine pz_lload_n hC dX10_termOf_39 0 rfl ?_
        refine pz_ldc2 hC dX10_termOf_40 ck_X10_269 ?_
        refine pz_lcmp hC dX10_termOf_43 ?_
        refine pz_if_ne hC dX10_termOf_44 hf (fun _ hf => ?_) (fun _ hf => ?_)
        · refine pz_lload_n hC dX10_termOf_52 0 rfl ?_
          refine pz_ldc2 hC dX10_termOf_53 ck_X10_271 ?_
          refine pz_lcmp hC dX10_termOf_56 ?_
          refine pz_if_ne hC dX10_termOf_57 hf (fun _ hf => ?_) (fun _ hf => ?_)
          · refine pz_iconst (v := ((-1) : Int32)) hC dX10_termOf_65 (by decide) ?_
            refine pz_sub [] rfl ?_
            exact tX10_termOf_66 hC hK hf
          · refine pz_bipush (v := (14 : Int32)) hC dX10_termOf_60 (by decide) ?_
            refine pz_goto hC dX10_termOf_62 ?_
            refine pz_sub [] rfl ?_
            exact tX10_termOf_66 hC hK hf
        · refine pz_bipush (v := (13 : Int32)) hC dX10_termOf_47 (by decide) ?_
          refine pz_goto hC dX10_termOf_49 ?_
          refine pz_sub [] rfl ?_
          exact tX10_termOf_66 hC hK hf
      · refine pz_bipush (v := (12 : Int32)) hC dX10_termOf_34 (by decide) ?_
        refine pz_goto hC dX10_termOf_36 ?_
        refine pz_sub [] rfl ?_
        exact tX10_termOf_66 hC hK hf
    · refine pz_bipush (v := (11 : Int32)) hC dX10_termOf_21 (by decide) ?_
      refine pz_goto hC dX10_termOf_23 ?_
      refine pz_sub [] rfl ?_
      exact tX10_termOf_66 hC hK hf
  · refine pz_bipush (v := (10 : Int32)) hC dX10_termOf_8 (by decide) ?_
    refine pz_goto hC dX10_termOf_10 ?_
    refine pz_sub [] rfl ?_
    exact tX10_termOf_66 hC hK hf
def fX10_readStatement_134 (f : pz_H) (s0 : Int32) (s1 : Int32) (s2 : Nat) : Option (Int32 × pz_H) :=
  (fnX10_readOfSpouse f s2 s1 s0).bind fun x1 =>
  (pz_b x1.1).bind fun x => some (x, x1.2)
theorem tX10_readStatement_134 {G : pz_G} {C : pz_C} {f : pz_H} {s0 : Int32} {s1 : Int32} {s2 : Nat} {r : (Int32 × pz_H)} (hC : pz_OK G C cX10_readStatement 4 RX10) (hK : pz_K C (some .boolean) 5 110 0 0) (hf : fX10_readStatement_134 f s0 s1 s2 = some r) : pz_W G C 4 134 [] [.int s0, .int s1, .ref s2] f 0 0 (pz_Q G C (some (.int r.1)) r.2 0 0) := by
  unfold fX10_readStatement_134 at hf
  refine pz_Viw (As := [.int s1, .int s0]) hC hK dX10_readStatement_134 py_X10_readOfSpouse pv_X10_readOfSpouse lk_X10_302 hf (fun _ h => mX10_readOfSpouse h) rfl rfl (Nat.le_of_ble_eq_true rfl) ⟨by decide, by decide⟩ ⟨by decide, by decide⟩ (fun x1 hf => ?_)
  exact pz_zretw hC hK dX10_readStatement_137 hf
def fX10_readStatement_119 (f : pz_H) (l0 : Nat) (l1 : Int64) (l3 : Int32) : Option (Int32 × pz_H) :=
  if (lg_cmp l1 ((1831504 : Int64))) = 0 then fX10_readStatement_134 f ((4 : Int32)) l3 l0 else
  fX10_readStatement_134 f ((5 : Int32)) l3 l0
theorem tX10_readStatement_119 {G : pz_G} {C : pz_C} {f : pz_H} {l0 : Nat} {l1 : Int64} {l3 : Int32} {r : (Int32 × pz_H)} (hC : pz_OK G C cX10_readStatement 4 RX10) (hK : pz_K C (some .boolean) 5 110 0 0) (hf : fX10_readStatement_119 f l0 l1 l3 = some r) : pz_W G C 4 119 [(0, .ref l0), (1, .long l1), (3, .int l3)] [] f 0 0 (pz_Q G C (some (.int r.1)) r.2 0 0) := by
  unfold fX10_readStatement_119 at hf
  refine pz_aload_n hC dX10_readStatement_119 0 rfl ?_
  refine pz_iload_n hC dX10_readStatement_120 2 rfl ?_
  refine pz_lload_n hC dX10_readStatement_121 1 rfl ?_
  refine pz_ldc2 hC dX10_readStatement_122 ck_X10_298 ?_
  refine pz_lcmp hC dX10_readStatement_125 ?_
  refine pz_if_ne hC dX10_readStatement_126 hf (fun _ hf => ?_) (fun _ hf => ?_)
  · refine pz_iconst (v := (5 : Int32)) hC dX10_readStatement_133 (by decide) ?_
    refine pz_sub [] rfl ?_
    exact tX10_readStatement_134 hC hK hf
  · refine pz_iconst (v := (4 : Int32)) hC dX10_readStatement_129 (by decide) ?_
    refine pz_goto hC dX10_readStatement_130 ?_
    refine pz_sub [] rfl ?_
    exact tX10_readStatement_134 hC hK hf
def fX10_readStatement_170 (f : pz_H) (s0 : Int32) (s1 : Int32) (s2 : Nat) : Option (Int32 × pz_H) :=
  (fnX10_readOne f s2 s1 s0).bind fun x1 =>
  (pz_b x1.1).bind fun x => some (x, x1.2)
theorem tX10_readStatement_170 {G : pz_G} {C : pz_C} {f : pz_H} {s0 : Int32} {s1 : Int32} {s2 : Nat} {r : (Int32 × pz_H)} (hC : pz_OK G C cX10_readStatement 4 RX10) (hK : pz_K C (some .boolean) 5 110 0 0) (hf : fX10_readStatement_170 f s0 s1 s2 = some r) : pz_W G C 4 170 [] [.int s0, .int s1, .ref s2] f 0 0 (pz_Q G C (some (.int r.1)) r.2 0 0) := by
  unfold fX10_readStatement_170 at hf
  refine pz_Viw (As := [.int s1, .int s0]) hC hK dX10_readStatement_170 py_X10_readOne pv_X10_readOne lk_X10_309 hf (fun _ h => mX10_readOne h) rfl rfl (Nat.le_of_ble_eq_true rfl) ⟨by decide, by decide⟩ ⟨by decide, by decide⟩ (fun x1 hf => ?_)
  exact pz_zretw hC hK dX10_readStatement_173 hf
def fX10_readStatement_154 (f : pz_H) (l0 : Nat) (l1 : Int64) (l3 : Int32) : Option (Int32 × pz_H) :=
  if (lg_cmp l1 ((85447 : Int64))) = 0 then fX10_readStatement_170 f ((6 : Int32)) l3 l0 else
  fX10_readStatement_170 f ((0 : Int32)) l3 l0
theorem tX10_readStatement_154 {G : pz_G} {C : pz_C} {f : pz_H} {l0 : Nat} {l1 : Int64} {l3 : Int32} {r : (Int32 × pz_H)} (hC : pz_OK G C cX10_readStatement 4 RX10) (hK : pz_K C (some .boolean) 5 110 0 0) (hf : fX10_readStatement_154 f l0 l1 l3 = some r) : pz_W G C 4 154 [(0, .ref l0), (1, .long l1), (3, .int l3)] [] f 0 0 (pz_Q G C (some (.int r.1)) r.2 0 0) := by
  unfold fX10_readStatement_154 at hf
  refine pz_aload_n hC dX10_readStatement_154 0 rfl ?_
  refine pz_iload_n hC dX10_readStatement_155 2 rfl ?_
  refine pz_lload_n hC dX10_readStatement_156 1 rfl ?_
  refine pz_ldc2 hC dX10_readStatement_157 ck_X10_305 ?_
  refine pz_lcmp hC dX10_readStatement_160 ?_
  refine pz_if_ne hC dX10_readStatement_161 hf (fun _ hf => ?_) (fun _ hf => ?_)
  · refine pz_iconst (v := (0 : Int32)) hC dX10_readStatement_169 (by decide) ?_
    refine pz_sub [] rfl ?_
    exact tX10_readStatement_170 hC hK hf
  · refine pz_bipush (v := (6 : Int32)) hC dX10_readStatement_164 (by decide) ?_
    refine pz_goto hC dX10_readStatement_166 ?_
    refine pz_sub [] rfl ?_
    exact tX10_readStatement_170 hC hK hf
def fX10_readStatement_200 (f : pz_H) (s0 : Int32) : Option (Int32 × pz_H) :=
  (pz_b s0).bind fun x => some (x, f)
theorem tX10_readStatement_200 {G : pz_G} {C : pz_C} {f : pz_H} {s0 : Int32} {r : (Int32 × pz_H)} (hC : pz_OK G C cX10_readStatement 4 RX10) (hK : pz_K C (some .boolean) 5 110 0 0) (hf : fX10_readStatement_200 f s0 = some r) : pz_W G C 4 200 [] [.int s0] f 0 0 (pz_Q G C (some (.int r.1)) r.2 0 0) := by
  unfold fX10_readStatement_200 at hf
  exact pz_zretw hC hK dX10_readStatement_200 hf
def fnX10_readStatement (f : pz_H) (a0 : Nat) : Option (Int32 × pz_H) :=
  (pz_is f a0 9).bind fun _ =>
  (fnX10_here f a0).bind fun x1 =>
  (fnX10_in x1.1 ((97 : Int32)) ((122 : Int32))).bind fun x2 =>
  if x2 = 0 then (pz_gI x1.2 a0 9 16).bind fun v14 =>
  (fnX10_fails x1.2 a0 ((1 : Int32)) v14).bind fun x15 =>
  (pz_b x15.1).bind fun x => some (x, x15.2) else
  (fnX10_readWord x1.2 a0).bind fun x3 =>
  (pz_gI x3.2 a0 9 19).bind fun v4 =>
  if (lg_cmp x3.1 ((50801 : Int64))) = 0 then (fnX10_readBorn x3.2 a0).bind fun x13 =>
  (pz_b x13.1).bind fun x => some (x, x13.2) else
  if (lg_cmp x3.1 ((10209515 : Int64))) = 0 then (fnX10_readServe x3.2 a0 v4).bind fun x12 =>
  (pz_b x12.1).bind fun x => some (x, x12.2) else
  if (lg_cmp x3.1 ((16906 : Int64))) = 0 then (fnX10_readWed x3.2 a0 v4).bind fun x11 =>
  (pz_b x11.1).bind fun x => some (x, x11.2) else
  if (lg_cmp x3.1 ((316163 : Int64))) = 0 then (fnX10_readPart x3.2 a0 v4).bind fun x10 =>
  (pz_b x10.1).bind fun x => some (x, x10.2) else
  if (lg_cmp x3.1 ((6570631 : Int64))) = 0 then (fnX10_readLives x3.2 a0 v4).bind fun x9 =>
  (pz_b x9.1).bind fun x => some (x, x9.2) else
  if (lg_cmp x3.1 ((1831504 : Int64))) = 0 then fX10_readStatement_119 x3.2 a0 x3.1 v4 else
  if (lg_cmp x3.1 ((247664 : Int64))) = 0 then fX10_readStatement_119 x3.2 a0 x3.1 v4 else
  if (lg_cmp x3.1 ((85447 : Int64))) = 0 then fX10_readStatement_154 x3.2 a0 x3.1 v4 else
  if (lg_cmp x3.1 ((261338243 : Int64))) = 0 then fX10_readStatement_154 x3.2 a0 x3.1 v4 else
  (fnX10_termOf x3.1).bind fun x5 =>
  if x5 = ((-1) : Int32) then (fnX10_fails x3.2 a0 ((1 : Int32)) v4).bind fun x8 =>
  fX10_readStatement_200 x8.2 x8.1 else
  (fnX10_termOf x3.1).bind fun x6 =>
  (fnX10_readOne x3.2 a0 v4 x6).bind fun x7 =>
  fX10_readStatement_200 x7.2 x7.1
theorem mX10_readStatement {l : Launch} {G : pz_G} {f : pz_H} {a0 : Nat} {r : (Int32 × pz_H)} (hf : fnX10_readStatement f a0 = some r) : pz_Met l G yX10_readStatement cX10_readStatement 4 (some .boolean) 5 110 0 0 [.ref a0] f (some (.int r.1)) r.2 ∧ pz_is f a0 9 = some () := by
  unfold fnX10_readStatement at hf
  obtain ⟨_, h0, hf⟩ := pz_bd hf
  refine ⟨pz_enter (by decide +kernel) (Nat.le_of_ble_eq_true rfl) (fun C hl hC hK hnm => ?_), h0⟩
  subst hl
  refine pz_sub (lv' := [(0, .ref a0)]) [0] rfl ?_
  refine pz_aload_n hC dX10_readStatement_0 0 rfl ?_
  refine pz_Viw (As := []) hC hK dX10_readStatement_1 py_X10_here pv_X10_here lk_X10_228 hf (fun _ h => mX10_here h) rfl rfl (Nat.le_of_ble_eq_true rfl) ⟨by decide, by decide⟩ ⟨by decide, by decide⟩ (fun x1 hf => ?_)
  refine pz_bipush (v := (97 : Int32)) hC dX10_readStatement_4 (by decide) ?_
  refine pz_bipush (v := (122 : Int32)) hC dX10_readStatement_6 (by decide) ?_
  refine pz_Si (As := [.int x1.1, .int (97 : Int32), .int (122 : Int32)]) hC hK dX10_readStatement_8 py_X10_in ps_X10_in lk_X10_52 hf (fun _ h => mX10_in h) rfl rfl (Nat.le_of_ble_eq_true rfl) ⟨by decide, by decide⟩ ⟨by decide, by decide⟩ (fun x2 hf => ?_)
  refine pz_if_ne hC dX10_readStatement_11 hf (fun _ hf => ?_) (fun _ hf => ?_)
  · refine pz_aload_n hC dX10_readStatement_24 0 rfl ?_
    refine pz_Vlw (As := []) hC hK dX10_readStatement_25 py_X10_readWord pv_X10_readWord lk_X10_255 hf (fun _ h => mX10_readWord h) rfl rfl (Nat.le_of_ble_eq_true rfl) ⟨by decide, by decide⟩ ⟨by decide, by decide⟩ (fun x3 hf => ?_)
    refine pz_lstore_n hC dX10_readStatement_28 (by decide) rfl ?_
    refine pz_aload_n hC dX10_readStatement_29 1 rfl ?_
    refine pz_getI hC dX10_readStatement_30 fa_X10_234 hf (fun v4 hf => ?_)
    refine pz_istore_n hC dX10_readStatement_33 (by decide) rfl ?_
    refine pz_lload_n hC dX10_readStatement_34 1 rfl ?_
    refine pz_ldc2 hC dX10_readStatement_35 ck_X10_273 ?_
    refine pz_lcmp hC dX10_readStatement_38 ?_
    refine pz_if_ne hC dX10_readStatement_39 hf (fun _ hf => ?_) (fun _ hf => ?_)
    · refine pz_lload_n hC dX10_readStatement_47 1 rfl ?_
      refine pz_ldc2 hC dX10_readStatement_48 ck_X10_278 ?_
      refine pz_lcmp hC dX10_readStatement_51 ?_
      refine pz_if_ne hC dX10_readStatement_52 hf (fun _ hf => ?_) (fun _ hf => ?_)
      · refine pz_lload_n hC dX10_readStatement_61 1 rfl ?_
        refine pz_ldc2 hC dX10_readStatement_62 ck_X10_283 ?_
        refine pz_lcmp hC dX10_readStatement_65 ?_
        refine pz_if_ne hC dX10_readStatement_66 hf (fun _ hf => ?_) (fun _ hf => ?_)
        · refine pz_lload_n hC dX10_readStatement_75 1 rfl ?_
          refine pz_ldc2 hC dX10_readStatement_76 ck_X10_288 ?_
          refine pz_lcmp hC dX10_readStatement_79 ?_
          refine pz_if_ne hC dX10_readStatement_80 hf (fun _ hf => ?_) (fun _ hf => ?_)
          · refine pz_lload_n hC dX10_readStatement_89 1 rfl ?_
            refine pz_ldc2 hC dX10_readStatement_90 ck_X10_293 ?_
            refine pz_lcmp hC dX10_readStatement_93 ?_
            refine pz_if_ne hC dX10_readStatement_94 hf (fun _ hf => ?_) (fun _ hf => ?_)
            · refine pz_lload_n hC dX10_readStatement_103 1 rfl ?_
              refine pz_ldc2 hC dX10_readStatement_104 ck_X10_298 ?_
              refine pz_lcmp hC dX10_readStatement_107 ?_
              refine pz_if_eq hC dX10_readStatement_108 hf (fun _ hf => ?_) (fun _ hf => ?_)
              · refine pz_sub [2, 1, 0] rfl ?_
                exact tX10_readStatement_119 hC hK hf
              · refine pz_lload_n hC dX10_readStatement_111 1 rfl ?_
                refine pz_ldc2 hC dX10_readStatement_112 ck_X10_300 ?_
                refine pz_lcmp hC dX10_readStatement_115 ?_
                refine pz_if_ne hC dX10_readStatement_116 hf (fun _ hf => ?_) (fun _ hf => ?_)
                · refine pz_lload_n hC dX10_readStatement_138 1 rfl ?_
                  refine pz_ldc2 hC dX10_readStatement_139 ck_X10_305 ?_
                  refine pz_lcmp hC dX10_readStatement_142 ?_
                  refine pz_if_eq hC dX10_readStatement_143 hf (fun _ hf => ?_) (fun _ hf => ?_)
                  · refine pz_sub [2, 1, 0] rfl ?_
                    exact tX10_readStatement_154 hC hK hf
                  · refine pz_lload_n hC dX10_readStatement_146 1 rfl ?_
                    refine pz_ldc2 hC dX10_readStatement_147 ck_X10_307 ?_
                    refine pz_lcmp hC dX10_readStatement_150 ?_
                    refine pz_if_ne hC dX10_readStatement_151 hf (fun _ hf => ?_) (fun _ hf => ?_)
                    · refine pz_lload_n hC dX10_readStatement_174 1 rfl ?_
                      refine pz_Si (As := [.long x3.1]) hC hK dX10_readStatement_175 py_X10_termOf ps_X10_termOf lk_X10_312 hf (fun _ h => mX10_termOf h) rfl rfl (Nat.le_of_ble_eq_true rfl) ⟨by decide, by decide⟩ ⟨by decide, by decide⟩ (fun x5 hf => ?_)
                      refine pz_iconst (v := ((-1) : Int32)) hC dX10_readStatement_178 (by decide) ?_
                      refine pz_icmp_ne hC dX10_readStatement_179 hf (fun _ hf => ?_) (fun _ hf => ?_)
                      · refine pz_aload_n hC dX10_readStatement_191 2 rfl ?_
                        refine pz_iload_n hC dX10_readStatement_192 0 rfl ?_
                        refine pz_lload_n hC dX10_readStatement_193 1 rfl ?_
                        refine pz_Si (As := [.long x3.1]) hC hK dX10_readStatement_194 py_X10_termOf ps_X10_termOf lk_X10_312 hf (fun _ h => mX10_termOf h) rfl rfl (Nat.le_of_ble_eq_true rfl) ⟨by decide, by decide⟩ ⟨by decide, by decide⟩ (fun x6 hf => ?_)
                        refine pz_Viw (As := [.int v4, .int x6]) hC hK dX10_readStatement_197 py_X10_readOne pv_X10_readOne lk_X10_309 hf (fun _ h => mX10_readOne h) rfl rfl (Nat.le_of_ble_eq_true rfl) ⟨by decide, by decide⟩ ⟨by decide, by decide⟩ (fun x7 hf => ?_)
                        refine pz_sub [] rfl ?_
                        exact tX10_readStatement_200 hC hK hf
                      · refine pz_aload_n hC dX10_readStatement_182 2 rfl ?_
                        refine pz_iconst (v := (1 : Int32)) hC dX10_readStatement_183 (by decide) ?_
                        refine pz_iload_n hC dX10_readStatement_184 0 rfl ?_
                        refine pz_Viw (As := [.int (1 : Int32), .int v4]) hC hK dX10_readStatement_185 py_X10_fails pv_X10_fails lk_X10_231 hf (fun _ h => mX10_fails h) rfl rfl (Nat.le_of_ble_eq_true rfl) ⟨by decide, by decide⟩ ⟨by decide, by decide⟩ (fun x8 hf => ?_)
                        refine pz_goto hC dX10_readStatement_188 ?_
                        refine pz_sub [] rfl ?_
                        exact tX10_readStatement_200 hC hK hf
                    · refine pz_sub [2, 1, 0] rfl ?_
                      exact tX10_readStatement_154 hC hK hf
                · refine pz_sub [2, 1, 0] rfl ?_
                  exact tX10_readStatement_119 hC hK hf
            · refine pz_aload_n hC dX10_readStatement_97 2 rfl ?_
              refine pz_iload_n hC dX10_readStatement_98 0 rfl ?_
              refine pz_Viw (As := [.int v4]) hC hK dX10_readStatement_99 py_X10_readLives pv_X10_readLives lk_X10_295 hf (fun _ h => mX10_readLives h) rfl rfl (Nat.le_of_ble_eq_true rfl) ⟨by decide, by decide⟩ ⟨by decide, by decide⟩ (fun x9 hf => ?_)
              exact pz_zretw hC hK dX10_readStatement_102 hf
          · refine pz_aload_n hC dX10_readStatement_83 2 rfl ?_
            refine pz_iload_n hC dX10_readStatement_84 0 rfl ?_
            refine pz_Viw (As := [.int v4]) hC hK dX10_readStatement_85 py_X10_readPart pv_X10_readPart lk_X10_290 hf (fun _ h => mX10_readPart h) rfl rfl (Nat.le_of_ble_eq_true rfl) ⟨by decide, by decide⟩ ⟨by decide, by decide⟩ (fun x10 hf => ?_)
            exact pz_zretw hC hK dX10_readStatement_88 hf
        · refine pz_aload_n hC dX10_readStatement_69 2 rfl ?_
          refine pz_iload_n hC dX10_readStatement_70 0 rfl ?_
          refine pz_Viw (As := [.int v4]) hC hK dX10_readStatement_71 py_X10_readWed pv_X10_readWed lk_X10_285 hf (fun _ h => mX10_readWed h) rfl rfl (Nat.le_of_ble_eq_true rfl) ⟨by decide, by decide⟩ ⟨by decide, by decide⟩ (fun x11 hf => ?_)
          exact pz_zretw hC hK dX10_readStatement_74 hf
      · refine pz_aload_n hC dX10_readStatement_55 2 rfl ?_
        refine pz_iload_n hC dX10_readStatement_56 0 rfl ?_
        refine pz_Viw (As := [.int v4]) hC hK dX10_readStatement_57 py_X10_readServe pv_X10_readServe lk_X10_280 hf (fun _ h => mX10_readServe h) rfl rfl (Nat.le_of_ble_eq_true rfl) ⟨by decide, by decide⟩ ⟨by decide, by decide⟩ (fun x12 hf => ?_)
        exact pz_zretw hC hK dX10_readStatement_60 hf
    · refine pz_aload_n hC dX10_readStatement_42 2 rfl ?_
      refine pz_Viw (As := []) hC hK dX10_readStatement_43 py_X10_readBorn pv_X10_readBorn lk_X10_275 hf (fun _ h => mX10_readBorn h) rfl rfl (Nat.le_of_ble_eq_true rfl) ⟨by decide, by decide⟩ ⟨by decide, by decide⟩ (fun x13 hf => ?_)
      exact pz_zretw hC hK dX10_readStatement_46 hf
  · refine pz_aload_n hC dX10_readStatement_14 0 rfl ?_
    refine pz_iconst (v := (1 : Int32)) hC dX10_readStatement_15 (by decide) ?_
    refine pz_aload_n hC dX10_readStatement_16 0 rfl ?_
    refine pz_getI hC dX10_readStatement_17 fa_X10_222 hf (fun v14 hf => ?_)
    refine pz_Viw (As := [.int (1 : Int32), .int v14]) hC hK dX10_readStatement_20 py_X10_fails pv_X10_fails lk_X10_231 hf (fun _ h => mX10_fails h) rfl rfl (Nat.le_of_ble_eq_true rfl) ⟨by decide, by decide⟩ ⟨by decide, by decide⟩ (fun x15 hf => ?_)
    exact pz_zretw hC hK dX10_readStatement_23 hf
def fX10_tell_115 (f : pz_H) (l0 : Nat) : Option (Int32 × pz_H) :=
  (pz_gI f l0 9 20).bind fun v1 =>
  some (v1, f)
theorem tX10_tell_115 {G : pz_G} {C : pz_C} {f : pz_H} {l0 : Nat} {r : (Int32 × pz_H)} (hC : pz_OK G C cX10_tell 3 RX10) (hK : pz_K C (some .int) 6 133 0 0) (hf : fX10_tell_115 f l0 = some r) : pz_W G C 3 115 [(0, .ref l0)] [] f 0 0 (pz_Q G C (some (.int r.1)) r.2 0 0) := by
  unfold fX10_tell_115 at hf
  refine pz_aload_n hC dX10_tell_115 0 rfl ?_
  refine pz_getI hC dX10_tell_116 fa_X10_316 hf (fun v1 hf => ?_)
  exact pz_iretw hC hK dX10_tell_119 hf
def fX10_tell_122b (k122 : pz_H → Nat → Int32 → Option (Int32 × pz_H)) (f : pz_H) (l0 : Nat) (l2 : Int32) : Option (Int32 × pz_H) :=
  if (87 : Int32) ≤ l2 then some (((-1) : Int32), f) else
  (pz_gR f l0 9 1).bind fun v1 =>
  (pz_gR f l0 9 3).bind fun v2 =>
  (pz_aI f v2 0 l2).bind fun v3 =>
  (pz_tI f v1 0 l2 v3).bind fun f4 =>
  k122 f4 l0 ((l2 + 1))
theorem tX10_tell_122b {G : pz_G} {C : pz_C} {f : pz_H} {k122 : pz_H → Nat → Int32 → Option (Int32 × pz_H)} {l0 : Nat} {l2 : Int32} {r : (Int32 × pz_H)} (hC : pz_OK G C cX10_tell 3 RX10) (hK : pz_K C (some .int) 6 133 0 0) (hk122 : ∀ (g : pz_H) (a0 : Nat) (a2 : Int32), k122 g a0 a2 = some r → pz_W G C 3 122 [(0, .ref a0), (2, .int a2)] [] g 0 0 (pz_Q G C (some (.int r.1)) r.2 0 0)) (hf : fX10_tell_122b k122 f l0 l2 = some r) : pz_W G C 3 122 [(0, .ref l0), (2, .int l2)] [] f 0 0 (pz_Q G C (some (.int r.1)) r.2 0 0) := by
  unfold fX10_tell_122b at hf
  refine pz_iload_n hC dX10_tell_122 1 rfl ?_
  refine pz_bipush (v := (87 : Int32)) hC dX10_tell_123 (by decide) ?_
  refine pz_icmp_ge hC dX10_tell_125 hf (fun _ hf => ?_) (fun _ hf => ?_)
  · refine pz_iconst (v := ((-1) : Int32)) hC dX10_tell_146 (by decide) ?_
    exact pz_iretw hC hK dX10_tell_147 hf
  · refine pz_aload_n hC dX10_tell_128 0 rfl ?_
    refine pz_getR hC dX10_tell_129 fa_X10_7 hf (fun v1 hf => ?_)
    refine pz_iload_n hC dX10_tell_132 1 rfl ?_
    refine pz_aload_n hC dX10_tell_133 0 rfl ?_
    refine pz_getR hC dX10_tell_134 fa_X10_16 hf (fun v2 hf => ?_)
    refine pz_iload_n hC dX10_tell_137 1 rfl ?_
    refine pz_iald hC dX10_tell_138 hf (fun v3 hf => ?_)
    refine pz_iast hC dX10_tell_139 hf (fun f4 hf => ?_)
    refine pz_iinc (v := (l2 + 1)) hC dX10_tell_140 1 rfl rfl (by decide) rfl ?_
    refine pz_goto hC dX10_tell_143 ?_
    refine pz_sub [1, 0] rfl ?_
    exact hk122 _ _ _ hf
def fX10_tell_122 : Nat → pz_H → Nat → Int32 → Option (Int32 × pz_H)
  | 0, _, _, _ => none
  | n + 1, f, l0, l2 => fX10_tell_122b (fX10_tell_122 n) f l0 l2
theorem tX10_tell_122 {G : pz_G} {C : pz_C} {r : (Int32 × pz_H)} (hC : pz_OK G C cX10_tell 3 RX10) (hK : pz_K C (some .int) 6 133 0 0) : ∀ (N : Nat) (f : pz_H) (l0 : Nat) (l2 : Int32), fX10_tell_122 N f l0 l2 = some r → pz_W G C 3 122 [(0, .ref l0), (2, .int l2)] [] f 0 0 (pz_Q G C (some (.int r.1)) r.2 0 0) := by
  intro N
  induction N with
  | zero => intro f l0 l2 hf; cases hf
  | succ N ih => intro f l0 l2 hf; exact tX10_tell_122b hC hK (fun f l0 l2 hf => ih f l0 l2 hf) hf
def fX10_tell_78 (f : pz_H) (l0 : Nat) (l1 : Int32) : Option (Int32 × pz_H) :=
  (pz_sV f l0 9 14 (.int (0 : Int32))).bind fun f1 =>
  (pz_gI f1 l0 9 17).bind fun v2 =>
  (pz_sV f1 l0 9 15 (.int v2)).bind fun f3 =>
  (pz_sV f3 l0 9 6 (.int (0 : Int32))).bind fun f4 =>
  if l1 = 0 then fX10_tell_122 pz_F f4 l0 ((0 : Int32)) else
  (pz_gI f4 l0 9 20).bind fun v5 =>
  if v5 ≤ 0 then fX10_tell_115 f4 l0 else
  (pz_gR f4 l0 9 3).bind fun v6 =>
  (fnX10_keeps f4 l0 v6).bind fun x7 =>
  fX10_tell_115 x7 l0
theorem tX10_tell_78 {G : pz_G} {C : pz_C} {f : pz_H} {l0 : Nat} {l1 : Int32} {r : (Int32 × pz_H)} (hC : pz_OK G C cX10_tell 3 RX10) (hK : pz_K C (some .int) 6 133 0 0) (hf : fX10_tell_78 f l0 l1 = some r) : pz_W G C 3 78 [(0, .ref l0), (1, .int l1)] [] f 0 0 (pz_Q G C (some (.int r.1)) r.2 0 0) := by
  unfold fX10_tell_78 at hf
  refine pz_aload_n hC dX10_tell_78 0 rfl ?_
  refine pz_iconst (v := (0 : Int32)) hC dX10_tell_79 (by decide) ?_
  refine pz_putV hC dX10_tell_80 fp_X10_169 rfl rfl hf (fun f1 hf => ?_)
  refine pz_aload_n hC dX10_tell_83 0 rfl ?_
  refine pz_aload_n hC dX10_tell_84 0 rfl ?_
  refine pz_getI hC dX10_tell_85 fa_X10_225 hf (fun v2 hf => ?_)
  refine pz_putV hC dX10_tell_88 fp_X10_322 rfl rfl hf (fun f3 hf => ?_)
  refine pz_aload_n hC dX10_tell_91 0 rfl ?_
  refine pz_iconst (v := (0 : Int32)) hC dX10_tell_92 (by decide) ?_
  refine pz_putV hC dX10_tell_93 fp_X10_80 (by decide) (by decide) hf (fun f4 hf => ?_)
  refine pz_iload_n hC dX10_tell_96 1 rfl ?_
  refine pz_if_eq hC dX10_tell_97 hf (fun _ hf => ?_) (fun _ hf => ?_)
  · refine pz_iconst (v := (0 : Int32)) hC dX10_tell_120 (by decide) ?_
    refine pz_istore_n hC dX10_tell_121 (by decide) rfl ?_
    refine pz_sub [1, 0] rfl ?_
    exact tX10_tell_122 hC hK _ _ _ _ hf
  · refine pz_aload_n hC dX10_tell_100 0 rfl ?_
    refine pz_getI hC dX10_tell_101 fa_X10_316 hf (fun v5 hf => ?_)
    refine pz_if_le hC dX10_tell_104 hf (fun _ hf => ?_) (fun _ hf => ?_)
    · refine pz_sub [0] rfl ?_
      exact tX10_tell_115 hC hK hf
    · refine pz_aload_n hC dX10_tell_107 0 rfl ?_
      refine pz_aload_n hC dX10_tell_108 0 rfl ?_
      refine pz_getR hC dX10_tell_109 fa_X10_16 hf (fun v6 hf => ?_)
      refine pz_Vv (As := [.ref v6]) hC hK dX10_tell_112 py_X10_keeps pv_X10_keeps lk_X10_215 hf (fun _ h => mX10_keeps h) rfl rfl (Nat.le_of_ble_eq_true rfl) ⟨by decide, by decide⟩ ⟨by decide, by decide⟩ (fun x7 hf => ?_)
      refine pz_sub [0] rfl ?_
      exact tX10_tell_115 hC hK hf
def fX10_tell_48b (k48 : pz_H → Nat → Int32 → Option (Int32 × pz_H)) (f : pz_H) (l0 : Nat) (l1 : Int32) : Option (Int32 × pz_H) :=
  if l1 = 0 then fX10_tell_78 f l0 l1 else
  (fnX10_here f l0).bind fun x1 =>
  if x1.1 = ((-1) : Int32) then fX10_tell_78 x1.2 l0 l1 else
  (fnX10_readStatement x1.2 l0).bind fun x2 =>
  (pz_gI x2.2 l0 9 20).bind fun v3 =>
  (pz_sV x2.2 l0 9 20 (.int (v3 + (1 : Int32)))).bind fun f4 =>
  k48 f4 l0 x2.1
theorem tX10_tell_48b {G : pz_G} {C : pz_C} {f : pz_H} {k48 : pz_H → Nat → Int32 → Option (Int32 × pz_H)} {l0 : Nat} {l1 : Int32} {r : (Int32 × pz_H)} (hC : pz_OK G C cX10_tell 3 RX10) (hK : pz_K C (some .int) 6 133 0 0) (hk48 : ∀ (g : pz_H) (a0 : Nat) (a1 : Int32), k48 g a0 a1 = some r → pz_W G C 3 48 [(0, .ref a0), (1, .int a1)] [] g 0 0 (pz_Q G C (some (.int r.1)) r.2 0 0)) (hf : fX10_tell_48b k48 f l0 l1 = some r) : pz_W G C 3 48 [(0, .ref l0), (1, .int l1)] [] f 0 0 (pz_Q G C (some (.int r.1)) r.2 0 0) := by
  unfold fX10_tell_48b at hf
  refine pz_iload_n hC dX10_tell_48 1 rfl ?_
  refine pz_if_eq hC dX10_tell_49 hf (fun _ hf => ?_) (fun _ hf => ?_)
  · exact tX10_tell_78 hC hK hf
  · refine pz_aload_n hC dX10_tell_52 0 rfl ?_
    refine pz_Viw (As := []) hC hK dX10_tell_53 py_X10_here pv_X10_here lk_X10_228 hf (fun _ h => mX10_here h) rfl rfl (Nat.le_of_ble_eq_true rfl) ⟨by decide, by decide⟩ ⟨by decide, by decide⟩ (fun x1 hf => ?_)
    refine pz_iconst (v := ((-1) : Int32)) hC dX10_tell_56 (by decide) ?_
    refine pz_icmp_eq hC dX10_tell_57 hf (fun _ hf => ?_) (fun _ hf => ?_)
    · exact tX10_tell_78 hC hK hf
    · refine pz_aload_n hC dX10_tell_60 0 rfl ?_
      refine pz_Viw (As := []) hC hK dX10_tell_61 py_X10_readStatement pv_X10_readStatement lk_X10_319 hf (fun _ h => mX10_readStatement h) rfl rfl (Nat.le_of_ble_eq_true rfl) ⟨by decide, by decide⟩ ⟨by decide, by decide⟩ (fun x2 hf => ?_)
      refine pz_istore_n hC dX10_tell_64 (by decide) rfl ?_
      refine pz_aload_n hC dX10_tell_65 1 rfl ?_
      refine pz_dup hC dX10_tell_66 rfl ?_
      refine pz_getI hC dX10_tell_67 fa_X10_316 hf (fun v3 hf => ?_)
      refine pz_iconst (v := (1 : Int32)) hC dX10_tell_70 (by decide) ?_
      refine pz_iadd hC dX10_tell_71 ?_
      refine pz_putV hC dX10_tell_72 fp_X10_316 rfl rfl hf (fun f4 hf => ?_)
      refine pz_goto hC dX10_tell_75 ?_
      refine pz_sub [1, 0] rfl ?_
      exact hk48 _ _ _ hf
def fX10_tell_48 : Nat → pz_H → Nat → Int32 → Option (Int32 × pz_H)
  | 0, _, _, _ => none
  | n + 1, f, l0, l1 => fX10_tell_48b (fX10_tell_48 n) f l0 l1
theorem tX10_tell_48 {G : pz_G} {C : pz_C} {r : (Int32 × pz_H)} (hC : pz_OK G C cX10_tell 3 RX10) (hK : pz_K C (some .int) 6 133 0 0) : ∀ (N : Nat) (f : pz_H) (l0 : Nat) (l1 : Int32), fX10_tell_48 N f l0 l1 = some r → pz_W G C 3 48 [(0, .ref l0), (1, .int l1)] [] f 0 0 (pz_Q G C (some (.int r.1)) r.2 0 0) := by
  intro N
  induction N with
  | zero => intro f l0 l1 hf; cases hf
  | succ N ih => intro f l0 l1 hf; exact tX10_tell_48b hC hK (fun f l0 l1 hf => ih f l0 l1 hf) hf
def fX10_tell_7b (k7 : pz_H → Nat → Int32 → Option (Int32 × pz_H)) (f : pz_H) (l0 : Nat) (l1 : Int32) : Option (Int32 × pz_H) :=
  if (87 : Int32) ≤ l1 then (pz_sV f l0 9 20 (.int (0 : Int32))).bind fun f1 =>
  (pz_sV f1 l0 9 16 (.int (0 : Int32))).bind fun f2 =>
  (pz_sV f2 l0 9 17 (.int (0 : Int32))).bind fun f3 =>
  fX10_tell_48 pz_F f3 l0 ((1 : Int32)) else
  (pz_gR f l0 9 3).bind fun v4 =>
  (pz_gR f l0 9 1).bind fun v5 =>
  (pz_aI f v5 0 l1).bind fun v6 =>
  (pz_tI f v4 0 l1 v6).bind fun f7 =>
  k7 f7 l0 ((l1 + 1))
theorem tX10_tell_7b {G : pz_G} {C : pz_C} {f : pz_H} {k7 : pz_H → Nat → Int32 → Option (Int32 × pz_H)} {l0 : Nat} {l1 : Int32} {r : (Int32 × pz_H)} (hC : pz_OK G C cX10_tell 3 RX10) (hK : pz_K C (some .int) 6 133 0 0) (hk7 : ∀ (g : pz_H) (a0 : Nat) (a1 : Int32), k7 g a0 a1 = some r → pz_W G C 3 7 [(0, .ref a0), (1, .int a1)] [] g 0 0 (pz_Q G C (some (.int r.1)) r.2 0 0)) (hf : fX10_tell_7b k7 f l0 l1 = some r) : pz_W G C 3 7 [(0, .ref l0), (1, .int l1)] [] f 0 0 (pz_Q G C (some (.int r.1)) r.2 0 0) := by
  unfold fX10_tell_7b at hf
  refine pz_iload_n hC dX10_tell_7 1 rfl ?_
  refine pz_bipush (v := (87 : Int32)) hC dX10_tell_8 (by decide) ?_
  refine pz_icmp_ge hC dX10_tell_10 hf (fun _ hf => ?_) (fun _ hf => ?_)
  · refine pz_aload_n hC dX10_tell_31 0 rfl ?_
    refine pz_iconst (v := (0 : Int32)) hC dX10_tell_32 (by decide) ?_
    refine pz_putV hC dX10_tell_33 fp_X10_316 rfl rfl hf (fun f1 hf => ?_)
    refine pz_aload_n hC dX10_tell_36 0 rfl ?_
    refine pz_iconst (v := (0 : Int32)) hC dX10_tell_37 (by decide) ?_
    refine pz_putV hC dX10_tell_38 fp_X10_222 rfl rfl hf (fun f2 hf => ?_)
    refine pz_aload_n hC dX10_tell_41 0 rfl ?_
    refine pz_iconst (v := (0 : Int32)) hC dX10_tell_42 (by decide) ?_
    refine pz_putV hC dX10_tell_43 fp_X10_225 rfl rfl hf (fun f3 hf => ?_)
    refine pz_iconst (v := (1 : Int32)) hC dX10_tell_46 (by decide) ?_
    refine pz_istore_n hC dX10_tell_47 (by decide) rfl ?_
    refine pz_sub [1, 0] rfl ?_
    exact tX10_tell_48 hC hK _ _ _ _ hf
  · refine pz_aload_n hC dX10_tell_13 0 rfl ?_
    refine pz_getR hC dX10_tell_14 fa_X10_16 hf (fun v4 hf => ?_)
    refine pz_iload_n hC dX10_tell_17 1 rfl ?_
    refine pz_aload_n hC dX10_tell_18 0 rfl ?_
    refine pz_getR hC dX10_tell_19 fa_X10_7 hf (fun v5 hf => ?_)
    refine pz_iload_n hC dX10_tell_22 1 rfl ?_
    refine pz_iald hC dX10_tell_23 hf (fun v6 hf => ?_)
    refine pz_iast hC dX10_tell_24 hf (fun f7 hf => ?_)
    refine pz_iinc (v := (l1 + 1)) hC dX10_tell_25 1 rfl rfl (by decide) rfl ?_
    refine pz_goto hC dX10_tell_28 ?_
    refine pz_sub [1, 0] rfl ?_
    exact hk7 _ _ _ hf
def fX10_tell_7 : Nat → pz_H → Nat → Int32 → Option (Int32 × pz_H)
  | 0, _, _, _ => none
  | n + 1, f, l0, l1 => fX10_tell_7b (fX10_tell_7 n) f l0 l1
theorem tX10_tell_7 {G : pz_G} {C : pz_C} {r : (Int32 × pz_H)} (hC : pz_OK G C cX10_tell 3 RX10) (hK : pz_K C (some .int) 6 133 0 0) : ∀ (N : Nat) (f : pz_H) (l0 : Nat) (l1 : Int32), fX10_tell_7 N f l0 l1 = some r → pz_W G C 3 7 [(0, .ref l0), (1, .int l1)] [] f 0 0 (pz_Q G C (some (.int r.1)) r.2 0 0) := by
  intro N
  induction N with
  | zero => intro f l0 l1 hf; cases hf
  | succ N ih => intro f l0 l1 hf; exact tX10_tell_7b hC hK (fun f l0 l1 hf => ih f l0 l1 hf) hf
def fnX10_tell (f : pz_H) (a0 : Nat) : Option (Int32 × pz_H) :=
  (pz_is f a0 9).bind fun _ =>
  (pz_sV f a0 9 0 (.int (0 : Int32))).bind fun f1 =>
  fX10_tell_7 pz_F f1 a0 ((0 : Int32))
theorem mX10_tell {l : Launch} {G : pz_G} {f : pz_H} {a0 : Nat} {r : (Int32 × pz_H)} (hf : fnX10_tell f a0 = some r) : pz_Met l G yX10_tell cX10_tell 3 (some .int) 6 133 0 0 [.ref a0] f (some (.int r.1)) r.2 ∧ pz_is f a0 9 = some () := by
  unfold fnX10_tell at hf
  obtain ⟨_, h0, hf⟩ := pz_bd hf
  refine ⟨pz_enter (by decide +kernel) (Nat.le_of_ble_eq_true rfl) (fun C hl hC hK hnm => ?_), h0⟩
  subst hl
  refine pz_sub (lv' := [(0, .ref a0)]) [0] rfl ?_
  refine pz_aload_n hC dX10_tell_0 0 rfl ?_
  refine pz_iconst (v := (0 : Int32)) hC dX10_tell_1 (by decide) ?_
  refine pz_putV hC dX10_tell_2 fp_X10_48 rfl rfl hf (fun f1 hf => ?_)
  refine pz_iconst (v := (0 : Int32)) hC dX10_tell_5 (by decide) ?_
  refine pz_istore_n hC dX10_tell_6 (by decide) rfl ?_
  refine pz_sub [1, 0] rfl ?_
  exact tX10_tell_7 hC hK _ _ _ _ hf
def fnX10_fault (f : pz_H) (a0 : Nat) : Option (Int32 × pz_H) :=
  (pz_is f a0 9).bind fun _ =>
  (pz_sV f a0 9 0 (.int (0 : Int32))).bind fun f1 =>
  (pz_gI f1 a0 9 15).bind fun v2 =>
  some (v2, f1)
theorem mX10_fault {l : Launch} {G : pz_G} {f : pz_H} {a0 : Nat} {r : (Int32 × pz_H)} (hf : fnX10_fault f a0 = some r) : pz_Met l G yX10_fault cX10_fault 1 (some .int) 0 0 0 0 [.ref a0] f (some (.int r.1)) r.2 ∧ pz_is f a0 9 = some () := by
  unfold fnX10_fault at hf
  obtain ⟨_, h0, hf⟩ := pz_bd hf
  refine ⟨pz_enter (by decide +kernel) (Nat.le_of_ble_eq_true rfl) (fun C hl hC hK hnm => ?_), h0⟩
  subst hl
  refine pz_sub (lv' := [(0, .ref a0)]) [0] rfl ?_
  refine pz_aload_n hC dX10_fault_0 0 rfl ?_
  refine pz_iconst (v := (0 : Int32)) hC dX10_fault_1 (by decide) ?_
  refine pz_putV hC dX10_fault_2 fp_X10_48 rfl rfl hf (fun f1 hf => ?_)
  refine pz_aload_n hC dX10_fault_5 0 rfl ?_
  refine pz_getI hC dX10_fault_6 fa_X10_322 hf (fun v2 hf => ?_)
  exact pz_iretw hC hK dX10_fault_9 hf
