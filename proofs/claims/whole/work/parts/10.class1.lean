def fnX1_init (f : pz_H) (a0 : Nat) : Option pz_H :=
  (pz_sV (pz_nw f (.inr (0, 34, .inl (fun _ => 0)))) a0 0 0 (.ref f.2.2)).bind fun f1 =>
  (pz_sV f1 a0 0 1 (.int (0 : Int32))).bind fun f2 =>
  some f2
theorem mX1_init {l : Launch} {G : pz_G} {f : pz_H} {a0 : Nat} {r : pz_H} (hf : fnX1_init f a0 = some r) : pz_Met l G yX1_init cX1_init 1 none 1 20 1 34 [.ref a0] f none r := by
  unfold fnX1_init at hf
  refine pz_enter (by decide +kernel) (Nat.le_of_ble_eq_true rfl) (fun C hl hC hK hnm => ?_)
  subst hl
  refine pz_sub (lv' := [(0, .ref a0)]) [0] rfl ?_
  refine pz_aload_n hC dX1_init_0 0 rfl ?_
  refine pz_objInit hC hK dX1_init_1 ol_X1_3 ob_inst ob_code (by decide) (Nat.le_of_ble_eq_true rfl) ?_
  refine pz_aload_n hC dX1_init_4 0 rfl ?_
  refine pz_bipush (v := (34 : Int32)) hC dX1_init_5 (by decide) ?_
  refine pz_newa (atype := .int) (ty := .int) (t := 0) (N := 34) (g := .inl (fun _ => 0)) (n' := 1) (k' := 34) hC hK dX1_init_7 (by decide) ac_0 rfl (fun G U h => (h.2 0 _ rfl).2) (fun G cA h => ⟨(34, .inl (fun _ => 0)), by rw [h]; rfl, rfl⟩) (by decide) (by decide +kernel) (by decide +kernel) rfl rfl ⟨Nat.le_of_ble_eq_true rfl, Nat.le_of_ble_eq_true rfl⟩ ?_
  refine pz_putF hC hnm dX1_init_9 fp_X1_9 (fun q h => by cases h; rfl) rfl rfl rfl hf (fun f1 hf => ?_)
  refine pz_aload_n hC dX1_init_12 0 rfl ?_
  refine pz_iconst (v := (0 : Int32)) hC dX1_init_13 (by decide) ?_
  refine pz_putV hC dX1_init_14 fp_X1_15 rfl rfl hf (fun f2 hf => ?_)
  exact pz_vret hC hK dX1_init_17 hf
def fX1_add_17 (f : pz_H) : Option pz_H :=
  some f
theorem tX1_add_17 {G : pz_G} {C : pz_C} {f : pz_H} {r : pz_H} (hC : pz_OK G C cX1_add 6 RX1) (hK : pz_K C none 0 0 0 0) (hf : fX1_add_17 f = some r) : pz_W G C 6 17 [] [] f 0 0 (pz_Q G C none r 0 0) := by
  unfold fX1_add_17 at hf
  exact pz_vret hC hK dX1_add_17 hf
def fX1_add_78 (f : pz_H) (l0 : Nat) (l4 : Int32) (l5 : Int32) : Option pz_H :=
  (pz_gR f l0 0 0).bind fun v1 =>
  (pz_tI f v1 0 l5 l4).bind fun f2 =>
  (pz_gI f2 l0 0 1).bind fun v3 =>
  (pz_sV f2 l0 0 1 (.int (v3 + (1 : Int32)))).bind fun f4 =>
  some f4
theorem tX1_add_78 {G : pz_G} {C : pz_C} {f : pz_H} {l0 : Nat} {l4 : Int32} {l5 : Int32} {r : pz_H} (hC : pz_OK G C cX1_add 6 RX1) (hK : pz_K C none 0 0 0 0) (hf : fX1_add_78 f l0 l4 l5 = some r) : pz_W G C 6 78 [(0, .ref l0), (4, .int l4), (5, .int l5)] [] f 0 0 (pz_Q G C none r 0 0) := by
  unfold fX1_add_78 at hf
  refine pz_aload_n hC dX1_add_78 0 rfl ?_
  refine pz_getR hC dX1_add_79 fa_X1_9 hf (fun v1 hf => ?_)
  refine pz_iload hC dX1_add_82 2 rfl ?_
  refine pz_iload hC dX1_add_84 1 rfl ?_
  refine pz_iast hC dX1_add_86 hf (fun f2 hf => ?_)
  refine pz_aload_n hC dX1_add_87 0 rfl ?_
  refine pz_dup hC dX1_add_88 rfl ?_
  refine pz_getI hC dX1_add_89 fa_X1_15 hf (fun v3 hf => ?_)
  refine pz_iconst (v := (1 : Int32)) hC dX1_add_92 (by decide) ?_
  refine pz_iadd hC dX1_add_93 ?_
  refine pz_putV hC dX1_add_94 fp_X1_15 rfl rfl hf (fun f4 hf => ?_)
  exact pz_vret hC hK dX1_add_97 hf
def fX1_add_37b (k37 : pz_H → Nat → Int32 → Int32 → Option pz_H) (f : pz_H) (l0 : Nat) (l4 : Int32) (l5 : Int32) : Option pz_H :=
  if l5 ≤ 0 then fX1_add_78 f l0 l4 l5 else
  (pz_gR f l0 0 0).bind fun v1 =>
  (pz_aI f v1 0 ((l5 - (1 : Int32)))).bind fun v2 =>
  if v2 ≤ l4 then fX1_add_78 f l0 l4 l5 else
  (pz_gR f l0 0 0).bind fun v3 =>
  (pz_gR f l0 0 0).bind fun v4 =>
  (pz_aI f v4 0 ((l5 - (1 : Int32)))).bind fun v5 =>
  (pz_tI f v3 0 l5 v5).bind fun f6 =>
  k37 f6 l0 l4 ((l5 + (-1)))
theorem tX1_add_37b {G : pz_G} {C : pz_C} {f : pz_H} {k37 : pz_H → Nat → Int32 → Int32 → Option pz_H} {l0 : Nat} {l4 : Int32} {l5 : Int32} {r : pz_H} (hC : pz_OK G C cX1_add 6 RX1) (hK : pz_K C none 0 0 0 0) (hk37 : ∀ (g : pz_H) (a0 : Nat) (a4 : Int32) (a5 : Int32), k37 g a0 a4 a5 = some r → pz_W G C 6 37 [(0, .ref a0), (4, .int a4), (5, .int a5)] [] g 0 0 (pz_Q G C none r 0 0)) (hf : fX1_add_37b k37 f l0 l4 l5 = some r) : pz_W G C 6 37 [(0, .ref l0), (4, .int l4), (5, .int l5)] [] f 0 0 (pz_Q G C none r 0 0) := by
  unfold fX1_add_37b at hf
  refine pz_iload hC dX1_add_37 2 rfl ?_
  refine pz_if_le hC dX1_add_39 hf (fun _ hf => ?_) (fun _ hf => ?_)
  · exact tX1_add_78 hC hK hf
  · refine pz_aload_n hC dX1_add_42 0 rfl ?_
    refine pz_getR hC dX1_add_43 fa_X1_9 hf (fun v1 hf => ?_)
    refine pz_iload hC dX1_add_46 2 rfl ?_
    refine pz_iconst (v := (1 : Int32)) hC dX1_add_48 (by decide) ?_
    refine pz_isub hC dX1_add_49 ?_
    refine pz_iald hC dX1_add_50 hf (fun v2 hf => ?_)
    refine pz_iload hC dX1_add_51 1 rfl ?_
    refine pz_icmp_le hC dX1_add_53 hf (fun _ hf => ?_) (fun _ hf => ?_)
    · exact tX1_add_78 hC hK hf
    · refine pz_aload_n hC dX1_add_56 0 rfl ?_
      refine pz_getR hC dX1_add_57 fa_X1_9 hf (fun v3 hf => ?_)
      refine pz_iload hC dX1_add_60 2 rfl ?_
      refine pz_aload_n hC dX1_add_62 0 rfl ?_
      refine pz_getR hC dX1_add_63 fa_X1_9 hf (fun v4 hf => ?_)
      refine pz_iload hC dX1_add_66 2 rfl ?_
      refine pz_iconst (v := (1 : Int32)) hC dX1_add_68 (by decide) ?_
      refine pz_isub hC dX1_add_69 ?_
      refine pz_iald hC dX1_add_70 hf (fun v5 hf => ?_)
      refine pz_iast hC dX1_add_71 hf (fun f6 hf => ?_)
      refine pz_iinc (v := (l5 + (-1))) hC dX1_add_72 2 rfl rfl (by decide) rfl ?_
      refine pz_goto hC dX1_add_75 ?_
      refine pz_sub [1, 2, 0] rfl ?_
      exact hk37 _ _ _ _ hf
def fX1_add_37 : Nat → pz_H → Nat → Int32 → Int32 → Option pz_H
  | 0, _, _, _, _ => none
  | n + 1, f, l0, l4, l5 => fX1_add_37b (fX1_add_37 n) f l0 l4 l5
theorem tX1_add_37 {G : pz_G} {C : pz_C} {r : pz_H} (hC : pz_OK G C cX1_add 6 RX1) (hK : pz_K C none 0 0 0 0) : ∀ (N : Nat) (f : pz_H) (l0 : Nat) (l4 : Int32) (l5 : Int32), fX1_add_37 N f l0 l4 l5 = some r → pz_W G C 6 37 [(0, .ref l0), (4, .int l4), (5, .int l5)] [] f 0 0 (pz_Q G C none r 0 0) := by
  intro N
  induction N with
  | zero => intro f l0 l4 l5 hf; cases hf
  | succ N ih => intro f l0 l4 l5 hf; exact tX1_add_37b hC hK (fun f l0 l4 l5 hf => ih f l0 l4 l5 hf) hf
def fnX1_add (f : pz_H) (a0 : Nat) (p1 : Int32) (p2 : Int32) (p3 : Int32) : Option pz_H :=
  (pz_is f a0 0).bind fun _ =>
  if p1 = ((-1) : Int32) then fX1_add_17 f else
  (pz_gI f a0 0 1).bind fun v1 =>
  (pz_gR f a0 0 0).bind fun v2 =>
  (pz_ln f v2 0).bind fun v3 =>
  if v1 < v3 then (pz_gI f a0 0 1).bind fun v4 =>
  fX1_add_37 pz_F f a0 (((((100 : Int32) * p1) + ((10 : Int32) * p2)) + p3)) v4 else
  fX1_add_17 f
theorem mX1_add {l : Launch} {G : pz_G} {f : pz_H} {a0 : Nat} {p1 : Int32} {p2 : Int32} {p3 : Int32} {r : pz_H} (hf : fnX1_add f a0 p1 p2 p3 = some r) : pz_Met l G yX1_add cX1_add 6 none 0 0 0 0 [.ref a0, .int p1, .int p2, .int p3] f none r ∧ pz_is f a0 0 = some () := by
  unfold fnX1_add at hf
  obtain ⟨_, h0, hf⟩ := pz_bd hf
  refine ⟨pz_enter (by decide +kernel) (Nat.le_of_ble_eq_true rfl) (fun C hl hC hK hnm => ?_), h0⟩
  subst hl
  refine pz_sub (lv' := [(0, .ref a0), (1, .int p1), (2, .int p2), (3, .int p3)]) [0, 1, 2, 3] rfl ?_
  refine pz_iload_n hC dX1_add_0 1 rfl ?_
  refine pz_iconst (v := ((-1) : Int32)) hC dX1_add_1 (by decide) ?_
  refine pz_icmp_eq hC dX1_add_2 hf (fun _ hf => ?_) (fun _ hf => ?_)
  · refine pz_sub [] rfl ?_
    exact tX1_add_17 hC hK hf
  · refine pz_aload_n hC dX1_add_5 0 rfl ?_
    refine pz_getI hC dX1_add_6 fa_X1_15 hf (fun v1 hf => ?_)
    refine pz_aload_n hC dX1_add_9 0 rfl ?_
    refine pz_getR hC dX1_add_10 fa_X1_9 hf (fun v2 hf => ?_)
    refine pz_alen hC dX1_add_13 (fun _ => rfl) (by decide) hf (fun v3 hf => ?_)
    refine pz_icmp_lt hC dX1_add_14 hf (fun _ hf => ?_) (fun _ hf => ?_)
    · refine pz_bipush (v := (100 : Int32)) hC dX1_add_18 (by decide) ?_
      refine pz_iload_n hC dX1_add_20 1 rfl ?_
      refine pz_imul hC dX1_add_21 ?_
      refine pz_bipush (v := (10 : Int32)) hC dX1_add_22 (by decide) ?_
      refine pz_iload_n hC dX1_add_24 2 rfl ?_
      refine pz_imul hC dX1_add_25 ?_
      refine pz_iadd hC dX1_add_26 ?_
      refine pz_iload_n hC dX1_add_27 3 rfl ?_
      refine pz_iadd hC dX1_add_28 ?_
      refine pz_istore hC dX1_add_29 (by decide) rfl ?_
      refine pz_aload_n hC dX1_add_31 1 rfl ?_
      refine pz_getI hC dX1_add_32 fa_X1_15 hf (fun v4 hf => ?_)
      refine pz_istore hC dX1_add_35 (by decide) rfl ?_
      refine pz_sub [2, 1, 0] rfl ?_
      exact tX1_add_37 hC hK _ _ _ _ _ hf
    · refine pz_sub [] rfl ?_
      exact tX1_add_17 hC hK hf
def fX3_beginOf_23 (f : pz_H) (s0 : Int32) : Option Int32 :=
  some s0
theorem tX3_beginOf_23 {G : pz_G} {C : pz_C} {f : pz_H} {s0 : Int32} {r : Int32} (hC : pz_OK G C cX3_beginOf 2 RX3) (hK : pz_K C (some .int) 1 23 0 0) (hf : fX3_beginOf_23 f s0 = some r) : pz_W G C 2 23 [] [.int s0] f 0 0 (pz_Q G C (some (.int r)) f 0 0) := by
  unfold fX3_beginOf_23 at hf
  exact pz_iret hC hK dX3_beginOf_23 hf
def fnX3_beginOf (f : pz_H) (a0 : Nat) (p1 : Nat) : Option Int32 :=
  (pz_is f a0 2).bind fun _ =>
  (pz_gI f a0 2 1).bind fun v1 =>
  if v1 = ((-1) : Int32) then fX3_beginOf_23 f (((-1) : Int32)) else
  (pz_gI f a0 2 1).bind fun v2 =>
  (pz_gI f p1 6 6).bind fun v3 =>
  fX3_beginOf_23 f ((if v2 < v3 then v3 else v2))
theorem mX3_beginOf {l : Launch} {G : pz_G} {f : pz_H} {a0 : Nat} {p1 : Nat} {r : Int32} (hf : fnX3_beginOf f a0 p1 = some r) : pz_Met l G yX3_beginOf cX3_beginOf 2 (some .int) 1 23 0 0 [.ref a0, .ref p1] f (some (.int r)) f ∧ pz_is f a0 2 = some () := by
  unfold fnX3_beginOf at hf
  obtain ⟨_, h0, hf⟩ := pz_bd hf
  refine ⟨pz_enter (by decide +kernel) (Nat.le_of_ble_eq_true rfl) (fun C hl hC hK hnm => ?_), h0⟩
  subst hl
  refine pz_sub (lv' := [(0, .ref a0), (1, .ref p1)]) [0, 1] rfl ?_
  refine pz_aload_n hC dX3_beginOf_0 0 rfl ?_
  refine pz_getI hC dX3_beginOf_1 fa_X3_44 hf (fun v1 hf => ?_)
  refine pz_iconst (v := ((-1) : Int32)) hC dX3_beginOf_4 (by decide) ?_
  refine pz_icmp_ne hC dX3_beginOf_5 hf (fun _ hf => ?_) (fun _ hf => ?_)
  · refine pz_aload_n hC dX3_beginOf_12 0 rfl ?_
    refine pz_getI hC dX3_beginOf_13 fa_X3_44 hf (fun v2 hf => ?_)
    refine pz_aload_n hC dX3_beginOf_16 1 rfl ?_
    refine pz_getI hC dX3_beginOf_17 fa_X3_140 hf (fun v3 hf => ?_)
    refine pz_mmax hC hK dX3_beginOf_20 mk_X3_154 ms_max mi_math mc_max (by decide) (Nat.le_of_ble_eq_true rfl) ⟨by decide, by decide⟩ ?_
    refine pz_sub [] rfl ?_
    exact tX3_beginOf_23 hC hK hf
  · refine pz_iconst (v := ((-1) : Int32)) hC dX3_beginOf_8 (by decide) ?_
    refine pz_goto hC dX3_beginOf_9 ?_
    refine pz_sub [] rfl ?_
    exact tX3_beginOf_23 hC hK hf
def fX1_fill_106 (k53 : pz_H → Nat → Nat → Int32 → Option pz_H) (f : pz_H) (l0 : Nat) (l1 : Nat) (l2 : Int32) (l3 : Nat) (s0 : Int32) (s1 : Nat) : Option pz_H :=
  (fnX1_add f s1 s0 ((5 : Int32)) l2).bind fun x1 =>
  (pz_gI x1 l3 6 7).bind fun v2 =>
  (fnX1_add x1 l0 v2 ((6 : Int32)) l2).bind fun x3 =>
  k53 x3 l0 l1 ((l2 + 1))
theorem tX1_fill_106 {G : pz_G} {C : pz_C} {f : pz_H} {k53 : pz_H → Nat → Nat → Int32 → Option pz_H} {l0 : Nat} {l1 : Nat} {l2 : Int32} {l3 : Nat} {s0 : Int32} {s1 : Nat} {r : pz_H} (hC : pz_OK G C cX1_fill 4 RX1) (hK : pz_K C none 2 44 0 0) (hk53 : ∀ (g : pz_H) (a0 : Nat) (a1 : Nat) (a2 : Int32), k53 g a0 a1 a2 = some r → pz_W G C 4 53 [(0, .ref a0), (1, .ref a1), (2, .int a2)] [] g 0 0 (pz_Q G C none r 0 0)) (hf : fX1_fill_106 k53 f l0 l1 l2 l3 s0 s1 = some r) : pz_W G C 4 106 [(0, .ref l0), (1, .ref l1), (2, .int l2), (3, .ref l3)] [.int s0, .ref s1] f 0 0 (pz_Q G C none r 0 0) := by
  unfold fX1_fill_106 at hf
  refine pz_iconst (v := (5 : Int32)) hC dX1_fill_106 (by decide) ?_
  refine pz_iload_n hC dX1_fill_107 2 rfl ?_
  refine pz_Vv (As := [.int s0, .int (5 : Int32), .int l2]) hC hK dX1_fill_108 py_X1_add pv_X1_add lk_X1_33 hf (fun _ h => mX1_add h) rfl rfl (Nat.le_of_ble_eq_true rfl) ⟨by decide, by decide⟩ ⟨Nat.le_of_ble_eq_true rfl, Nat.le_of_ble_eq_true rfl⟩ (fun x1 hf => ?_)
  refine pz_aload_n hC dX1_fill_111 0 rfl ?_
  refine pz_aload_n hC dX1_fill_112 3 rfl ?_
  refine pz_getI hC dX1_fill_113 fa_X1_59 hf (fun v2 hf => ?_)
  refine pz_bipush (v := (6 : Int32)) hC dX1_fill_116 (by decide) ?_
  refine pz_iload_n hC dX1_fill_118 2 rfl ?_
  refine pz_Vv (As := [.int v2, .int (6 : Int32), .int l2]) hC hK dX1_fill_119 py_X1_add pv_X1_add lk_X1_33 hf (fun _ h => mX1_add h) rfl rfl (Nat.le_of_ble_eq_true rfl) ⟨by decide, by decide⟩ ⟨Nat.le_of_ble_eq_true rfl, Nat.le_of_ble_eq_true rfl⟩ (fun x3 hf => ?_)
  refine pz_iinc (v := (l2 + 1)) hC dX1_fill_122 2 rfl rfl (by decide) rfl ?_
  refine pz_goto hC dX1_fill_125 ?_
  refine pz_sub [1, 2, 0] rfl ?_
  exact hk53 _ _ _ _ hf
def fX1_fill_53b (k53 : pz_H → Nat → Nat → Int32 → Option pz_H) (f : pz_H) (l0 : Nat) (l1 : Nat) (l2 : Int32) : Option pz_H :=
  (pz_gI f l1 2 8).bind fun v1 =>
  if v1 ≤ l2 then (pz_gI f l1 2 1).bind fun v2 =>
  (fnX1_add f l0 v2 ((4 : Int32)) ((0 : Int32))).bind fun x3 =>
  (pz_gI x3 l1 2 2).bind fun v4 =>
  (fnX1_add x3 l0 v4 ((7 : Int32)) ((0 : Int32))).bind fun x5 =>
  some x5 else
  (pz_gR f l1 2 7).bind fun v6 =>
  (pz_aR f v6 4 l2).bind fun v7 =>
  (pz_gI f v7 6 1).bind fun v8 =>
  (fnX1_add f l0 v8 ((2 : Int32)) l2).bind fun x9 =>
  (pz_gI x9 v7 6 2).bind fun v10 =>
  (fnX1_add x9 l0 v10 ((3 : Int32)) l2).bind fun x11 =>
  (pz_gI x11 v7 6 2).bind fun v12 =>
  if v12 = ((-1) : Int32) then fX1_fill_106 k53 x11 l0 l1 l2 v7 (((-1) : Int32)) l0 else
  (fnX3_beginOf x11 l1 v7).bind fun x13 =>
  fX1_fill_106 k53 x11 l0 l1 l2 v7 x13 l0
theorem tX1_fill_53b {G : pz_G} {C : pz_C} {f : pz_H} {k53 : pz_H → Nat → Nat → Int32 → Option pz_H} {l0 : Nat} {l1 : Nat} {l2 : Int32} {r : pz_H} (hC : pz_OK G C cX1_fill 4 RX1) (hK : pz_K C none 2 44 0 0) (hk53 : ∀ (g : pz_H) (a0 : Nat) (a1 : Nat) (a2 : Int32), k53 g a0 a1 a2 = some r → pz_W G C 4 53 [(0, .ref a0), (1, .ref a1), (2, .int a2)] [] g 0 0 (pz_Q G C none r 0 0)) (hf : fX1_fill_53b k53 f l0 l1 l2 = some r) : pz_W G C 4 53 [(0, .ref l0), (1, .ref l1), (2, .int l2)] [] f 0 0 (pz_Q G C none r 0 0) := by
  unfold fX1_fill_53b at hf
  refine pz_iload_n hC dX1_fill_53 2 rfl ?_
  refine pz_aload_n hC dX1_fill_54 1 rfl ?_
  refine pz_getI hC dX1_fill_55 fa_X1_40 hf (fun v1 hf => ?_)
  refine pz_icmp_ge hC dX1_fill_58 hf (fun _ hf => ?_) (fun _ hf => ?_)
  · refine pz_aload_n hC dX1_fill_128 0 rfl ?_
    refine pz_aload_n hC dX1_fill_129 1 rfl ?_
    refine pz_getI hC dX1_fill_130 fa_X1_62 hf (fun v2 hf => ?_)
    refine pz_iconst (v := (4 : Int32)) hC dX1_fill_133 (by decide) ?_
    refine pz_iconst (v := (0 : Int32)) hC dX1_fill_134 (by decide) ?_
    refine pz_Vv (As := [.int v2, .int (4 : Int32), .int (0 : Int32)]) hC hK dX1_fill_135 py_X1_add pv_X1_add lk_X1_33 hf (fun _ h => mX1_add h) rfl rfl (Nat.le_of_ble_eq_true rfl) ⟨by decide, by decide⟩ ⟨Nat.le_of_ble_eq_true rfl, Nat.le_of_ble_eq_true rfl⟩ (fun x3 hf => ?_)
    refine pz_aload_n hC dX1_fill_138 0 rfl ?_
    refine pz_aload_n hC dX1_fill_139 1 rfl ?_
    refine pz_getI hC dX1_fill_140 fa_X1_65 hf (fun v4 hf => ?_)
    refine pz_bipush (v := (7 : Int32)) hC dX1_fill_143 (by decide) ?_
    refine pz_iconst (v := (0 : Int32)) hC dX1_fill_145 (by decide) ?_
    refine pz_Vv (As := [.int v4, .int (7 : Int32), .int (0 : Int32)]) hC hK dX1_fill_146 py_X1_add pv_X1_add lk_X1_33 hf (fun _ h => mX1_add h) rfl rfl (Nat.le_of_ble_eq_true rfl) ⟨by decide, by decide⟩ ⟨Nat.le_of_ble_eq_true rfl, Nat.le_of_ble_eq_true rfl⟩ (fun x5 hf => ?_)
    exact pz_vret hC hK dX1_fill_149 hf
  · refine pz_aload_n hC dX1_fill_61 1 rfl ?_
    refine pz_getR hC dX1_fill_62 fa_X1_43 hf (fun v6 hf => ?_)
    refine pz_iload_n hC dX1_fill_65 2 rfl ?_
    refine pz_aald hC dX1_fill_66 (fun _ => rfl) (by decide) hf (fun v7 hf => ?_)
    refine pz_astore_n hC dX1_fill_67 (by decide) rfl ?_
    refine pz_aload_n hC dX1_fill_68 1 rfl ?_
    refine pz_aload_n hC dX1_fill_69 0 rfl ?_
    refine pz_getI hC dX1_fill_70 fa_X1_47 hf (fun v8 hf => ?_)
    refine pz_iconst (v := (2 : Int32)) hC dX1_fill_73 (by decide) ?_
    refine pz_iload_n hC dX1_fill_74 3 rfl ?_
    refine pz_Vv (As := [.int v8, .int (2 : Int32), .int l2]) hC hK dX1_fill_75 py_X1_add pv_X1_add lk_X1_33 hf (fun _ h => mX1_add h) rfl rfl (Nat.le_of_ble_eq_true rfl) ⟨by decide, by decide⟩ ⟨Nat.le_of_ble_eq_true rfl, Nat.le_of_ble_eq_true rfl⟩ (fun x9 hf => ?_)
    refine pz_aload_n hC dX1_fill_78 1 rfl ?_
    refine pz_aload_n hC dX1_fill_79 0 rfl ?_
    refine pz_getI hC dX1_fill_80 fa_X1_52 hf (fun v10 hf => ?_)
    refine pz_iconst (v := (3 : Int32)) hC dX1_fill_83 (by decide) ?_
    refine pz_iload_n hC dX1_fill_84 3 rfl ?_
    refine pz_Vv (As := [.int v10, .int (3 : Int32), .int l2]) hC hK dX1_fill_85 py_X1_add pv_X1_add lk_X1_33 hf (fun _ h => mX1_add h) rfl rfl (Nat.le_of_ble_eq_true rfl) ⟨by decide, by decide⟩ ⟨Nat.le_of_ble_eq_true rfl, Nat.le_of_ble_eq_true rfl⟩ (fun x11 hf => ?_)
    refine pz_aload_n hC dX1_fill_88 1 rfl ?_
    refine pz_aload_n hC dX1_fill_89 0 rfl ?_
    refine pz_getI hC dX1_fill_90 fa_X1_52 hf (fun v12 hf => ?_)
    refine pz_iconst (v := ((-1) : Int32)) hC dX1_fill_93 (by decide) ?_
    refine pz_icmp_ne hC dX1_fill_94 hf (fun _ hf => ?_) (fun _ hf => ?_)
    · refine pz_aload_n hC dX1_fill_101 2 rfl ?_
      refine pz_aload_n hC dX1_fill_102 0 rfl ?_
      refine pz_Vi (As := [.ref v7]) hC hK dX1_fill_103 py_X3_beginOf pv_X3_beginOf lk_X1_55 hf (fun _ h => mX3_beginOf h) rfl rfl (Nat.le_of_ble_eq_true rfl) ⟨by decide, by decide⟩ ⟨Nat.le_of_ble_eq_true rfl, Nat.le_of_ble_eq_true rfl⟩ (fun x13 hf => ?_)
      refine pz_sub [1, 2, 3, 0] rfl ?_
      exact tX1_fill_106 hC hK hk53 hf
    · refine pz_iconst (v := ((-1) : Int32)) hC dX1_fill_97 (by decide) ?_
      refine pz_goto hC dX1_fill_98 ?_
      refine pz_sub [1, 2, 3, 0] rfl ?_
      exact tX1_fill_106 hC hK hk53 hf
def fX1_fill_53 : Nat → pz_H → Nat → Nat → Int32 → Option pz_H
  | 0, _, _, _, _ => none
  | n + 1, f, l0, l1, l2 => fX1_fill_53b (fX1_fill_53 n) f l0 l1 l2
theorem tX1_fill_53 {G : pz_G} {C : pz_C} {r : pz_H} (hC : pz_OK G C cX1_fill 4 RX1) (hK : pz_K C none 2 44 0 0) : ∀ (N : Nat) (f : pz_H) (l0 : Nat) (l1 : Nat) (l2 : Int32), fX1_fill_53 N f l0 l1 l2 = some r → pz_W G C 4 53 [(0, .ref l0), (1, .ref l1), (2, .int l2)] [] f 0 0 (pz_Q G C none r 0 0) := by
  intro N
  induction N with
  | zero => intro f l0 l1 l2 hf; cases hf
  | succ N ih => intro f l0 l1 l2 hf; exact tX1_fill_53b hC hK (fun f l0 l1 l2 hf => ih f l0 l1 l2 hf) hf
def fX1_fill_7b (k7 : pz_H → Nat → Nat → Int32 → Option pz_H) (f : pz_H) (l0 : Nat) (l1 : Nat) (l2 : Int32) : Option pz_H :=
  (pz_gI f l1 2 5).bind fun v1 =>
  if v1 ≤ l2 then fX1_fill_53 pz_F f l0 l1 ((0 : Int32)) else
  (pz_gR f l1 2 4).bind fun v2 =>
  (pz_aR f v2 3 l2).bind fun v3 =>
  (pz_gI f v3 5 0).bind fun v4 =>
  (fnX1_add f l0 v4 ((0 : Int32)) l2).bind fun x5 =>
  (pz_gR x5 l1 2 4).bind fun v6 =>
  (pz_aR x5 v6 3 l2).bind fun v7 =>
  (pz_gI x5 v7 5 1).bind fun v8 =>
  (fnX1_add x5 l0 v8 ((1 : Int32)) l2).bind fun x9 =>
  k7 x9 l0 l1 ((l2 + 1))
theorem tX1_fill_7b {G : pz_G} {C : pz_C} {f : pz_H} {k7 : pz_H → Nat → Nat → Int32 → Option pz_H} {l0 : Nat} {l1 : Nat} {l2 : Int32} {r : pz_H} (hC : pz_OK G C cX1_fill 4 RX1) (hK : pz_K C none 2 44 0 0) (hk7 : ∀ (g : pz_H) (a0 : Nat) (a1 : Nat) (a2 : Int32), k7 g a0 a1 a2 = some r → pz_W G C 4 7 [(0, .ref a0), (1, .ref a1), (2, .int a2)] [] g 0 0 (pz_Q G C none r 0 0)) (hf : fX1_fill_7b k7 f l0 l1 l2 = some r) : pz_W G C 4 7 [(0, .ref l0), (1, .ref l1), (2, .int l2)] [] f 0 0 (pz_Q G C none r 0 0) := by
  unfold fX1_fill_7b at hf
  refine pz_iload_n hC dX1_fill_7 2 rfl ?_
  refine pz_aload_n hC dX1_fill_8 1 rfl ?_
  refine pz_getI hC dX1_fill_9 fa_X1_19 hf (fun v1 hf => ?_)
  refine pz_icmp_ge hC dX1_fill_12 hf (fun _ hf => ?_) (fun _ hf => ?_)
  · refine pz_iconst (v := (0 : Int32)) hC dX1_fill_51 (by decide) ?_
    refine pz_istore_n hC dX1_fill_52 (by decide) rfl ?_
    refine pz_sub [1, 2, 0] rfl ?_
    exact tX1_fill_53 hC hK _ _ _ _ _ hf
  · refine pz_aload_n hC dX1_fill_15 0 rfl ?_
    refine pz_aload_n hC dX1_fill_16 1 rfl ?_
    refine pz_getR hC dX1_fill_17 fa_X1_24 hf (fun v2 hf => ?_)
    refine pz_iload_n hC dX1_fill_20 2 rfl ?_
    refine pz_aald hC dX1_fill_21 (fun _ => rfl) (by decide) hf (fun v3 hf => ?_)
    refine pz_getI hC dX1_fill_22 fa_X1_28 hf (fun v4 hf => ?_)
    refine pz_iconst (v := (0 : Int32)) hC dX1_fill_25 (by decide) ?_
    refine pz_iload_n hC dX1_fill_26 2 rfl ?_
    refine pz_Vv (As := [.int v4, .int (0 : Int32), .int l2]) hC hK dX1_fill_27 py_X1_add pv_X1_add lk_X1_33 hf (fun _ h => mX1_add h) rfl rfl (Nat.le_of_ble_eq_true rfl) ⟨by decide, by decide⟩ ⟨Nat.le_of_ble_eq_true rfl, Nat.le_of_ble_eq_true rfl⟩ (fun x5 hf => ?_)
    refine pz_aload_n hC dX1_fill_30 0 rfl ?_
    refine pz_aload_n hC dX1_fill_31 1 rfl ?_
    refine pz_getR hC dX1_fill_32 fa_X1_24 hf (fun v6 hf => ?_)
    refine pz_iload_n hC dX1_fill_35 2 rfl ?_
    refine pz_aald hC dX1_fill_36 (fun _ => rfl) (by decide) hf (fun v7 hf => ?_)
    refine pz_getI hC dX1_fill_37 fa_X1_37 hf (fun v8 hf => ?_)
    refine pz_iconst (v := (1 : Int32)) hC dX1_fill_40 (by decide) ?_
    refine pz_iload_n hC dX1_fill_41 2 rfl ?_
    refine pz_Vv (As := [.int v8, .int (1 : Int32), .int l2]) hC hK dX1_fill_42 py_X1_add pv_X1_add lk_X1_33 hf (fun _ h => mX1_add h) rfl rfl (Nat.le_of_ble_eq_true rfl) ⟨by decide, by decide⟩ ⟨Nat.le_of_ble_eq_true rfl, Nat.le_of_ble_eq_true rfl⟩ (fun x9 hf => ?_)
    refine pz_iinc (v := (l2 + 1)) hC dX1_fill_45 2 rfl rfl (by decide) rfl ?_
    refine pz_goto hC dX1_fill_48 ?_
    refine pz_sub [1, 2, 0] rfl ?_
    exact hk7 _ _ _ _ hf
def fX1_fill_7 : Nat → pz_H → Nat → Nat → Int32 → Option pz_H
  | 0, _, _, _, _ => none
  | n + 1, f, l0, l1, l2 => fX1_fill_7b (fX1_fill_7 n) f l0 l1 l2
theorem tX1_fill_7 {G : pz_G} {C : pz_C} {r : pz_H} (hC : pz_OK G C cX1_fill 4 RX1) (hK : pz_K C none 2 44 0 0) : ∀ (N : Nat) (f : pz_H) (l0 : Nat) (l1 : Nat) (l2 : Int32), fX1_fill_7 N f l0 l1 l2 = some r → pz_W G C 4 7 [(0, .ref l0), (1, .ref l1), (2, .int l2)] [] f 0 0 (pz_Q G C none r 0 0) := by
  intro N
  induction N with
  | zero => intro f l0 l1 l2 hf; cases hf
  | succ N ih => intro f l0 l1 l2 hf; exact tX1_fill_7b hC hK (fun f l0 l1 l2 hf => ih f l0 l1 l2 hf) hf
def fnX1_fill (f : pz_H) (a0 : Nat) (p1 : Nat) : Option pz_H :=
  (pz_is f a0 0).bind fun _ =>
  (pz_sV f a0 0 1 (.int (0 : Int32))).bind fun f1 =>
  fX1_fill_7 pz_F f1 a0 p1 ((0 : Int32))
theorem mX1_fill {l : Launch} {G : pz_G} {f : pz_H} {a0 : Nat} {p1 : Nat} {r : pz_H} (hf : fnX1_fill f a0 p1 = some r) : pz_Met l G yX1_fill cX1_fill 4 none 2 44 0 0 [.ref a0, .ref p1] f none r ∧ pz_is f a0 0 = some () := by
  unfold fnX1_fill at hf
  obtain ⟨_, h0, hf⟩ := pz_bd hf
  refine ⟨pz_enter (by decide +kernel) (Nat.le_of_ble_eq_true rfl) (fun C hl hC hK hnm => ?_), h0⟩
  subst hl
  refine pz_sub (lv' := [(0, .ref a0), (1, .ref p1)]) [0, 1] rfl ?_
  refine pz_aload_n hC dX1_fill_0 0 rfl ?_
  refine pz_iconst (v := (0 : Int32)) hC dX1_fill_1 (by decide) ?_
  refine pz_putV hC dX1_fill_2 fp_X1_15 rfl rfl hf (fun f1 hf => ?_)
  refine pz_iconst (v := (0 : Int32)) hC dX1_fill_5 (by decide) ?_
  refine pz_istore_n hC dX1_fill_6 (by decide) rfl ?_
  refine pz_sub [1, 2, 0] rfl ?_
  exact tX1_fill_7 hC hK _ _ _ _ _ hf
def fnX2_init (f : pz_H) (a0 : Nat) : Option pz_H :=
  (pz_sV (pz_nw f (.inr (0, 10, .inl (fun _ => 0)))) a0 1 0 (.ref f.2.2)).bind fun f1 =>
  (pz_sV (pz_nw f1 (.inr (0, 10, .inl (fun _ => 0)))) a0 1 1 (.ref f1.2.2)).bind fun f2 =>
  (pz_sV f2 a0 1 2 (.int (0 : Int32))).bind fun f3 =>
  some f3
theorem mX2_init {l : Launch} {G : pz_G} {f : pz_H} {a0 : Nat} {r : pz_H} (hf : fnX2_init f a0 = some r) : pz_Met l G yX2_init cX2_init 1 none 1 20 2 20 [.ref a0] f none r := by
  unfold fnX2_init at hf
  refine pz_enter (by decide +kernel) (Nat.le_of_ble_eq_true rfl) (fun C hl hC hK hnm => ?_)
  subst hl
  refine pz_sub (lv' := [(0, .ref a0)]) [0] rfl ?_
  refine pz_aload_n hC dX2_init_0 0 rfl ?_
  refine pz_objInit hC hK dX2_init_1 ol_X2_3 ob_inst ob_code (by decide) (Nat.le_of_ble_eq_true rfl) ?_
  refine pz_aload_n hC dX2_init_4 0 rfl ?_
  refine pz_bipush (v := (10 : Int32)) hC dX2_init_5 (by decide) ?_
  refine pz_newa (atype := .int) (ty := .int) (t := 0) (N := 10) (g := .inl (fun _ => 0)) (n' := 1) (k' := 10) hC hK dX2_init_7 (by decide) ac_0 rfl (fun G U h => (h.2 0 _ rfl).2) (fun G cA h => ⟨(10, .inl (fun _ => 0)), by rw [h]; rfl, rfl⟩) (by decide) (by decide +kernel) (by decide +kernel) rfl rfl ⟨Nat.le_of_ble_eq_true rfl, Nat.le_of_ble_eq_true rfl⟩ ?_
  refine pz_putF hC hnm dX2_init_9 fp_X2_9 (fun q h => by cases h; rfl) rfl rfl rfl hf (fun f1 hf => ?_)
  refine pz_aload_n hC dX2_init_12 0 rfl ?_
  refine pz_bipush (v := (10 : Int32)) hC dX2_init_13 (by decide) ?_
  refine pz_newa (atype := .int) (ty := .int) (t := 0) (N := 10) (g := .inl (fun _ => 0)) (n' := 2) (k' := 20) hC hK dX2_init_15 (by decide) ac_0 rfl (fun G U h => (h.2 0 _ rfl).2) (fun G cA h => ⟨(10, .inl (fun _ => 0)), by rw [h]; rfl, rfl⟩) (by decide) (by decide +kernel) (by decide +kernel) rfl rfl ⟨Nat.le_of_ble_eq_true rfl, Nat.le_of_ble_eq_true rfl⟩ ?_
  refine pz_putF hC hnm dX2_init_17 fp_X2_15 (fun q h => by cases h; rfl) rfl rfl rfl hf (fun f2 hf => ?_)
  refine pz_aload_n hC dX2_init_20 0 rfl ?_
  refine pz_iconst (v := (0 : Int32)) hC dX2_init_21 (by decide) ?_
  refine pz_putV hC dX2_init_22 fp_X2_18 rfl rfl hf (fun f3 hf => ?_)
  exact pz_vret hC hK dX2_init_25 hf
def fX2_copyFrom_10b (k10 : pz_H → Nat → Nat → Int32 → Option pz_H) (f : pz_H) (l0 : Nat) (l1 : Nat) (l2 : Int32) : Option pz_H :=
  (pz_gI f l0 1 2).bind fun v1 =>
  if v1 ≤ l2 then some f else
  (pz_gR f l0 1 0).bind fun v2 =>
  (pz_gR f l1 1 0).bind fun v3 =>
  (pz_aI f v3 0 l2).bind fun v4 =>
  (pz_tI f v2 0 l2 v4).bind fun f5 =>
  (pz_gR f5 l0 1 1).bind fun v6 =>
  (pz_gR f5 l1 1 1).bind fun v7 =>
  (pz_aI f5 v7 0 l2).bind fun v8 =>
  (pz_tI f5 v6 0 l2 v8).bind fun f9 =>
  k10 f9 l0 l1 ((l2 + 1))
theorem tX2_copyFrom_10b {G : pz_G} {C : pz_C} {f : pz_H} {k10 : pz_H → Nat → Nat → Int32 → Option pz_H} {l0 : Nat} {l1 : Nat} {l2 : Int32} {r : pz_H} (hC : pz_OK G C cX2_copyFrom 3 RX2) (hK : pz_K C none 0 0 0 0) (hk10 : ∀ (g : pz_H) (a0 : Nat) (a1 : Nat) (a2 : Int32), k10 g a0 a1 a2 = some r → pz_W G C 3 10 [(0, .ref a0), (1, .ref a1), (2, .int a2)] [] g 0 0 (pz_Q G C none r 0 0)) (hf : fX2_copyFrom_10b k10 f l0 l1 l2 = some r) : pz_W G C 3 10 [(0, .ref l0), (1, .ref l1), (2, .int l2)] [] f 0 0 (pz_Q G C none r 0 0) := by
  unfold fX2_copyFrom_10b at hf
  refine pz_iload_n hC dX2_copyFrom_10 2 rfl ?_
  refine pz_aload_n hC dX2_copyFrom_11 0 rfl ?_
  refine pz_getI hC dX2_copyFrom_12 fa_X2_18 hf (fun v1 hf => ?_)
  refine pz_icmp_ge hC dX2_copyFrom_15 hf (fun _ hf => ?_) (fun _ hf => ?_)
  · exact pz_vret hC hK dX2_copyFrom_48 hf
  · refine pz_aload_n hC dX2_copyFrom_18 0 rfl ?_
    refine pz_getR hC dX2_copyFrom_19 fa_X2_9 hf (fun v2 hf => ?_)
    refine pz_iload_n hC dX2_copyFrom_22 2 rfl ?_
    refine pz_aload_n hC dX2_copyFrom_23 1 rfl ?_
    refine pz_getR hC dX2_copyFrom_24 fa_X2_9 hf (fun v3 hf => ?_)
    refine pz_iload_n hC dX2_copyFrom_27 2 rfl ?_
    refine pz_iald hC dX2_copyFrom_28 hf (fun v4 hf => ?_)
    refine pz_iast hC dX2_copyFrom_29 hf (fun f5 hf => ?_)
    refine pz_aload_n hC dX2_copyFrom_30 0 rfl ?_
    refine pz_getR hC dX2_copyFrom_31 fa_X2_15 hf (fun v6 hf => ?_)
    refine pz_iload_n hC dX2_copyFrom_34 2 rfl ?_
    refine pz_aload_n hC dX2_copyFrom_35 1 rfl ?_
    refine pz_getR hC dX2_copyFrom_36 fa_X2_15 hf (fun v7 hf => ?_)
    refine pz_iload_n hC dX2_copyFrom_39 2 rfl ?_
    refine pz_iald hC dX2_copyFrom_40 hf (fun v8 hf => ?_)
    refine pz_iast hC dX2_copyFrom_41 hf (fun f9 hf => ?_)
    refine pz_iinc (v := (l2 + 1)) hC dX2_copyFrom_42 2 rfl rfl (by decide) rfl ?_
    refine pz_goto hC dX2_copyFrom_45 ?_
    refine pz_sub [1, 2, 0] rfl ?_
    exact hk10 _ _ _ _ hf
def fX2_copyFrom_10 : Nat → pz_H → Nat → Nat → Int32 → Option pz_H
  | 0, _, _, _, _ => none
  | n + 1, f, l0, l1, l2 => fX2_copyFrom_10b (fX2_copyFrom_10 n) f l0 l1 l2
theorem tX2_copyFrom_10 {G : pz_G} {C : pz_C} {r : pz_H} (hC : pz_OK G C cX2_copyFrom 3 RX2) (hK : pz_K C none 0 0 0 0) : ∀ (N : Nat) (f : pz_H) (l0 : Nat) (l1 : Nat) (l2 : Int32), fX2_copyFrom_10 N f l0 l1 l2 = some r → pz_W G C 3 10 [(0, .ref l0), (1, .ref l1), (2, .int l2)] [] f 0 0 (pz_Q G C none r 0 0) := by
  intro N
  induction N with
  | zero => intro f l0 l1 l2 hf; cases hf
  | succ N ih => intro f l0 l1 l2 hf; exact tX2_copyFrom_10b hC hK (fun f l0 l1 l2 hf => ih f l0 l1 l2 hf) hf
def fnX2_copyFrom (f : pz_H) (a0 : Nat) (p1 : Nat) : Option pz_H :=
  (pz_is f a0 1).bind fun _ =>
  (pz_gI f p1 1 2).bind fun v1 =>
  (pz_sV f a0 1 2 (.int v1)).bind fun f2 =>
  fX2_copyFrom_10 pz_F f2 a0 p1 ((0 : Int32))
theorem mX2_copyFrom {l : Launch} {G : pz_G} {f : pz_H} {a0 : Nat} {p1 : Nat} {r : pz_H} (hf : fnX2_copyFrom f a0 p1 = some r) : pz_Met l G yX2_copyFrom cX2_copyFrom 3 none 0 0 0 0 [.ref a0, .ref p1] f none r ∧ pz_is f a0 1 = some () := by
  unfold fnX2_copyFrom at hf
  obtain ⟨_, h0, hf⟩ := pz_bd hf
  refine ⟨pz_enter (by decide +kernel) (Nat.le_of_ble_eq_true rfl) (fun C hl hC hK hnm => ?_), h0⟩
  subst hl
  refine pz_sub (lv' := [(0, .ref a0), (1, .ref p1)]) [0, 1] rfl ?_
  refine pz_aload_n hC dX2_copyFrom_0 0 rfl ?_
  refine pz_aload_n hC dX2_copyFrom_1 1 rfl ?_
  refine pz_getI hC dX2_copyFrom_2 fa_X2_18 hf (fun v1 hf => ?_)
  refine pz_putV hC dX2_copyFrom_5 fp_X2_18 rfl rfl hf (fun f2 hf => ?_)
  refine pz_iconst (v := (0 : Int32)) hC dX2_copyFrom_8 (by decide) ?_
  refine pz_istore_n hC dX2_copyFrom_9 (by decide) rfl ?_
  refine pz_sub [1, 2, 0] rfl ?_
  exact tX2_copyFrom_10 hC hK _ _ _ _ _ hf
def fX2_makeRoom_5b (k5 : pz_H → Nat → Int32 → Int32 → Option pz_H) (f : pz_H) (l0 : Nat) (l1 : Int32) (l2 : Int32) : Option pz_H :=
  if l2 ≤ l1 then (pz_gI f l0 1 2).bind fun v1 =>
  (pz_sV f l0 1 2 (.int (v1 + (1 : Int32)))).bind fun f2 =>
  some f2 else
  (pz_gR f l0 1 0).bind fun v3 =>
  (pz_gR f l0 1 0).bind fun v4 =>
  (pz_aI f v4 0 ((l2 - (1 : Int32)))).bind fun v5 =>
  (pz_tI f v3 0 l2 v5).bind fun f6 =>
  (pz_gR f6 l0 1 1).bind fun v7 =>
  (pz_gR f6 l0 1 1).bind fun v8 =>
  (pz_aI f6 v8 0 ((l2 - (1 : Int32)))).bind fun v9 =>
  (pz_tI f6 v7 0 l2 v9).bind fun f10 =>
  k5 f10 l0 l1 ((l2 + (-1)))
theorem tX2_makeRoom_5b {G : pz_G} {C : pz_C} {f : pz_H} {k5 : pz_H → Nat → Int32 → Int32 → Option pz_H} {l0 : Nat} {l1 : Int32} {l2 : Int32} {r : pz_H} (hC : pz_OK G C cX2_makeRoom 3 RX2) (hK : pz_K C none 0 0 0 0) (hk5 : ∀ (g : pz_H) (a0 : Nat) (a1 : Int32) (a2 : Int32), k5 g a0 a1 a2 = some r → pz_W G C 3 5 [(0, .ref a0), (1, .int a1), (2, .int a2)] [] g 0 0 (pz_Q G C none r 0 0)) (hf : fX2_makeRoom_5b k5 f l0 l1 l2 = some r) : pz_W G C 3 5 [(0, .ref l0), (1, .int l1), (2, .int l2)] [] f 0 0 (pz_Q G C none r 0 0) := by
  unfold fX2_makeRoom_5b at hf
  refine pz_iload_n hC dX2_makeRoom_5 2 rfl ?_
  refine pz_iload_n hC dX2_makeRoom_6 1 rfl ?_
  refine pz_icmp_le hC dX2_makeRoom_7 hf (fun _ hf => ?_) (fun _ hf => ?_)
  · refine pz_aload_n hC dX2_makeRoom_44 0 rfl ?_
    refine pz_dup hC dX2_makeRoom_45 rfl ?_
    refine pz_getI hC dX2_makeRoom_46 fa_X2_18 hf (fun v1 hf => ?_)
    refine pz_iconst (v := (1 : Int32)) hC dX2_makeRoom_49 (by decide) ?_
    refine pz_iadd hC dX2_makeRoom_50 ?_
    refine pz_putV hC dX2_makeRoom_51 fp_X2_18 rfl rfl hf (fun f2 hf => ?_)
    exact pz_vret hC hK dX2_makeRoom_54 hf
  · refine pz_aload_n hC dX2_makeRoom_10 0 rfl ?_
    refine pz_getR hC dX2_makeRoom_11 fa_X2_9 hf (fun v3 hf => ?_)
    refine pz_iload_n hC dX2_makeRoom_14 2 rfl ?_
    refine pz_aload_n hC dX2_makeRoom_15 0 rfl ?_
    refine pz_getR hC dX2_makeRoom_16 fa_X2_9 hf (fun v4 hf => ?_)
    refine pz_iload_n hC dX2_makeRoom_19 2 rfl ?_
    refine pz_iconst (v := (1 : Int32)) hC dX2_makeRoom_20 (by decide) ?_
    refine pz_isub hC dX2_makeRoom_21 ?_
    refine pz_iald hC dX2_makeRoom_22 hf (fun v5 hf => ?_)
    refine pz_iast hC dX2_makeRoom_23 hf (fun f6 hf => ?_)
    refine pz_aload_n hC dX2_makeRoom_24 0 rfl ?_
    refine pz_getR hC dX2_makeRoom_25 fa_X2_15 hf (fun v7 hf => ?_)
    refine pz_iload_n hC dX2_makeRoom_28 2 rfl ?_
    refine pz_aload_n hC dX2_makeRoom_29 0 rfl ?_
    refine pz_getR hC dX2_makeRoom_30 fa_X2_15 hf (fun v8 hf => ?_)
    refine pz_iload_n hC dX2_makeRoom_33 2 rfl ?_
    refine pz_iconst (v := (1 : Int32)) hC dX2_makeRoom_34 (by decide) ?_
    refine pz_isub hC dX2_makeRoom_35 ?_
    refine pz_iald hC dX2_makeRoom_36 hf (fun v9 hf => ?_)
    refine pz_iast hC dX2_makeRoom_37 hf (fun f10 hf => ?_)
    refine pz_iinc (v := (l2 + (-1))) hC dX2_makeRoom_38 2 rfl rfl (by decide) rfl ?_
    refine pz_goto hC dX2_makeRoom_41 ?_
    refine pz_sub [1, 2, 0] rfl ?_
    exact hk5 _ _ _ _ hf
def fX2_makeRoom_5 : Nat → pz_H → Nat → Int32 → Int32 → Option pz_H
  | 0, _, _, _, _ => none
  | n + 1, f, l0, l1, l2 => fX2_makeRoom_5b (fX2_makeRoom_5 n) f l0 l1 l2
theorem tX2_makeRoom_5 {G : pz_G} {C : pz_C} {r : pz_H} (hC : pz_OK G C cX2_makeRoom 3 RX2) (hK : pz_K C none 0 0 0 0) : ∀ (N : Nat) (f : pz_H) (l0 : Nat) (l1 : Int32) (l2 : Int32), fX2_makeRoom_5 N f l0 l1 l2 = some r → pz_W G C 3 5 [(0, .ref l0), (1, .int l1), (2, .int l2)] [] f 0 0 (pz_Q G C none r 0 0) := by
  intro N
  induction N with
  | zero => intro f l0 l1 l2 hf; cases hf
  | succ N ih => intro f l0 l1 l2 hf; exact tX2_makeRoom_5b hC hK (fun f l0 l1 l2 hf => ih f l0 l1 l2 hf) hf
def fnX2_makeRoom (f : pz_H) (a0 : Nat) (p1 : Int32) : Option pz_H :=
  (pz_is f a0 1).bind fun _ =>
  (pz_gI f a0 1 2).bind fun v1 =>
  fX2_makeRoom_5 pz_F f a0 p1 v1
theorem mX2_makeRoom {l : Launch} {G : pz_G} {f : pz_H} {a0 : Nat} {p1 : Int32} {r : pz_H} (hf : fnX2_makeRoom f a0 p1 = some r) : pz_Met l G yX2_makeRoom cX2_makeRoom 3 none 0 0 0 0 [.ref a0, .int p1] f none r ∧ pz_is f a0 1 = some () := by
  unfold fnX2_makeRoom at hf
  obtain ⟨_, h0, hf⟩ := pz_bd hf
  refine ⟨pz_enter (by decide +kernel) (Nat.le_of_ble_eq_true rfl) (fun C hl hC hK hnm => ?_), h0⟩
  subst hl
  refine pz_sub (lv' := [(0, .ref a0), (1, .int p1)]) [0, 1] rfl ?_
  refine pz_aload_n hC dX2_makeRoom_0 0 rfl ?_
  refine pz_getI hC dX2_makeRoom_1 fa_X2_18 hf (fun v1 hf => ?_)
  refine pz_istore_n hC dX2_makeRoom_4 (by decide) rfl ?_
  refine pz_sub [1, 2, 0] rfl ?_
  exact tX2_makeRoom_5 hC hK _ _ _ _ _ hf
def fX2_tellYear_132 (f : pz_H) : Option (Int32 × pz_H) :=
  (pz_b ((0 : Int32))).bind fun x => some (x, f)
theorem tX2_tellYear_132 {G : pz_G} {C : pz_C} {f : pz_H} {r : (Int32 × pz_H)} (hC : pz_OK G C cX2_tellYear 8 RX2) (hK : pz_K C (some .boolean) 1 22 0 0) (hf : fX2_tellYear_132 f = some r) : pz_W G C 8 132 [] [] f 0 0 (pz_Q G C (some (.int r.1)) r.2 0 0) := by
  unfold fX2_tellYear_132 at hf
  refine pz_iconst (v := (0 : Int32)) hC dX2_tellYear_132 (by decide) ?_
  exact pz_zretw hC hK dX2_tellYear_133 hf
def fX2_tellYear_144 (f : pz_H) (l0 : Nat) (l1 : Int32) (l2 : Int32) (l3 : Int32) : Option (Int32 × pz_H) :=
  (pz_gR f l0 1 0).bind fun v1 =>
  (pz_tI f v1 0 l3 l1).bind fun f2 =>
  (pz_gR f2 l0 1 1).bind fun v3 =>
  (pz_tI f2 v3 0 l3 l2).bind fun f4 =>
  (pz_b ((1 : Int32))).bind fun x => some (x, f4)
theorem tX2_tellYear_144 {G : pz_G} {C : pz_C} {f : pz_H} {l0 : Nat} {l1 : Int32} {l2 : Int32} {l3 : Int32} {r : (Int32 × pz_H)} (hC : pz_OK G C cX2_tellYear 8 RX2) (hK : pz_K C (some .boolean) 1 22 0 0) (hf : fX2_tellYear_144 f l0 l1 l2 l3 = some r) : pz_W G C 8 144 [(0, .ref l0), (1, .int l1), (2, .int l2), (3, .int l3)] [] f 0 0 (pz_Q G C (some (.int r.1)) r.2 0 0) := by
  unfold fX2_tellYear_144 at hf
  refine pz_aload_n hC dX2_tellYear_144 0 rfl ?_
  refine pz_getR hC dX2_tellYear_145 fa_X2_9 hf (fun v1 hf => ?_)
  refine pz_iload_n hC dX2_tellYear_148 3 rfl ?_
  refine pz_iload_n hC dX2_tellYear_149 1 rfl ?_
  refine pz_iast hC dX2_tellYear_150 hf (fun f2 hf => ?_)
  refine pz_aload_n hC dX2_tellYear_151 0 rfl ?_
  refine pz_getR hC dX2_tellYear_152 fa_X2_15 hf (fun v3 hf => ?_)
  refine pz_iload_n hC dX2_tellYear_155 3 rfl ?_
  refine pz_iload_n hC dX2_tellYear_156 2 rfl ?_
  refine pz_iast hC dX2_tellYear_157 hf (fun f4 hf => ?_)
  refine pz_iconst (v := (1 : Int32)) hC dX2_tellYear_158 (by decide) ?_
  exact pz_zretw hC hK dX2_tellYear_159 hf
def fX2_tellYear_134 (f : pz_H) (l0 : Nat) (l1 : Int32) (l2 : Int32) (l3 : Int32) (l4 : Int32) : Option (Int32 × pz_H) :=
  if l4 = 0 then (fnX2_makeRoom f l0 l3).bind fun x1 =>
  fX2_tellYear_144 x1 l0 l1 l2 l3 else
  fX2_tellYear_144 f l0 l1 l2 l3
theorem tX2_tellYear_134 {G : pz_G} {C : pz_C} {f : pz_H} {l0 : Nat} {l1 : Int32} {l2 : Int32} {l3 : Int32} {l4 : Int32} {r : (Int32 × pz_H)} (hC : pz_OK G C cX2_tellYear 8 RX2) (hK : pz_K C (some .boolean) 1 22 0 0) (hf : fX2_tellYear_134 f l0 l1 l2 l3 l4 = some r) : pz_W G C 8 134 [(0, .ref l0), (1, .int l1), (2, .int l2), (3, .int l3), (4, .int l4)] [] f 0 0 (pz_Q G C (some (.int r.1)) r.2 0 0) := by
  unfold fX2_tellYear_134 at hf
  refine pz_iload hC dX2_tellYear_134 4 rfl ?_
  refine pz_if_ne hC dX2_tellYear_136 hf (fun _ hf => ?_) (fun _ hf => ?_)
  · refine pz_sub [0, 1, 2, 3] rfl ?_
    exact tX2_tellYear_144 hC hK hf
  · refine pz_aload_n hC dX2_tellYear_139 0 rfl ?_
    refine pz_iload_n hC dX2_tellYear_140 3 rfl ?_
    refine pz_Vv (As := [.int l3]) hC hK dX2_tellYear_141 py_X2_makeRoom pv_X2_makeRoom lk_X2_23 hf (fun _ h => mX2_makeRoom h) rfl rfl (Nat.le_of_ble_eq_true rfl) ⟨by decide, by decide⟩ ⟨Nat.le_of_ble_eq_true rfl, Nat.le_of_ble_eq_true rfl⟩ (fun x1 hf => ?_)
    refine pz_sub [0, 1, 2, 3] rfl ?_
    exact tX2_tellYear_144 hC hK hf
def fX2_tellYear_104 (f : pz_H) (l0 : Nat) (l1 : Int32) (l2 : Int32) (l3 : Int32) (l4 : Int32) (l6 : Int32) (s0 : Int32) : Option (Int32 × pz_H) :=
  if l6 < l2 then fX2_tellYear_132 f else
  if l2 < s0 then fX2_tellYear_132 f else
  if l4 = 0 then (pz_gI f l0 1 2).bind fun v1 =>
  if v1 < (10 : Int32) then fX2_tellYear_134 f l0 l1 l2 l3 l4 else
  fX2_tellYear_132 f else
  fX2_tellYear_134 f l0 l1 l2 l3 l4
theorem tX2_tellYear_104 {G : pz_G} {C : pz_C} {f : pz_H} {l0 : Nat} {l1 : Int32} {l2 : Int32} {l3 : Int32} {l4 : Int32} {l6 : Int32} {s0 : Int32} {r : (Int32 × pz_H)} (hC : pz_OK G C cX2_tellYear 8 RX2) (hK : pz_K C (some .boolean) 1 22 0 0) (hf : fX2_tellYear_104 f l0 l1 l2 l3 l4 l6 s0 = some r) : pz_W G C 8 104 [(0, .ref l0), (1, .int l1), (2, .int l2), (3, .int l3), (4, .int l4), (6, .int l6)] [.int s0] f 0 0 (pz_Q G C (some (.int r.1)) r.2 0 0) := by
  unfold fX2_tellYear_104 at hf
  refine pz_istore hC dX2_tellYear_104 (by decide) rfl ?_
  refine pz_iload_n hC dX2_tellYear_106 3 rfl ?_
  refine pz_iload hC dX2_tellYear_107 6 rfl ?_
  refine pz_icmp_gt hC dX2_tellYear_109 hf (fun _ hf => ?_) (fun _ hf => ?_)
  · refine pz_sub [] rfl ?_
    exact tX2_tellYear_132 hC hK hf
  · refine pz_iload_n hC dX2_tellYear_112 3 rfl ?_
    refine pz_iload hC dX2_tellYear_113 0 rfl ?_
    refine pz_icmp_lt hC dX2_tellYear_115 hf (fun _ hf => ?_) (fun _ hf => ?_)
    · refine pz_sub [] rfl ?_
      exact tX2_tellYear_132 hC hK hf
    · refine pz_iload hC dX2_tellYear_118 5 rfl ?_
      refine pz_if_ne hC dX2_tellYear_120 hf (fun _ hf => ?_) (fun _ hf => ?_)
      · refine pz_sub [1, 2, 3, 4, 5] rfl ?_
        exact tX2_tellYear_134 hC hK hf
      · refine pz_aload_n hC dX2_tellYear_123 1 rfl ?_
        refine pz_getI hC dX2_tellYear_124 fa_X2_18 hf (fun v1 hf => ?_)
        refine pz_bipush (v := (10 : Int32)) hC dX2_tellYear_127 (by decide) ?_
        refine pz_icmp_lt hC dX2_tellYear_129 hf (fun _ hf => ?_) (fun _ hf => ?_)
        · refine pz_sub [1, 2, 3, 4, 5] rfl ?_
          exact tX2_tellYear_134 hC hK hf
        · refine pz_sub [] rfl ?_
          exact tX2_tellYear_132 hC hK hf
def fX2_tellYear_82 (f : pz_H) (l0 : Nat) (l1 : Int32) (l2 : Int32) (l3 : Int32) (l4 : Int32) (l5 : Int32) (s0 : Int32) : Option (Int32 × pz_H) :=
  (pz_gI f l0 1 2).bind fun v1 =>
  if v1 ≤ l5 then fX2_tellYear_104 f l0 l1 l2 l3 l4 s0 ((0 : Int32)) else
  (pz_gR f l0 1 1).bind fun v2 =>
  (pz_aI f v2 0 l5).bind fun v3 =>
  fX2_tellYear_104 f l0 l1 l2 l3 l4 s0 v3
theorem tX2_tellYear_82 {G : pz_G} {C : pz_C} {f : pz_H} {l0 : Nat} {l1 : Int32} {l2 : Int32} {l3 : Int32} {l4 : Int32} {l5 : Int32} {s0 : Int32} {r : (Int32 × pz_H)} (hC : pz_OK G C cX2_tellYear 8 RX2) (hK : pz_K C (some .boolean) 1 22 0 0) (hf : fX2_tellYear_82 f l0 l1 l2 l3 l4 l5 s0 = some r) : pz_W G C 8 82 [(0, .ref l0), (1, .int l1), (2, .int l2), (3, .int l3), (4, .int l4), (5, .int l5)] [.int s0] f 0 0 (pz_Q G C (some (.int r.1)) r.2 0 0) := by
  unfold fX2_tellYear_82 at hf
  refine pz_istore hC dX2_tellYear_82 (by decide) rfl ?_
  refine pz_iload hC dX2_tellYear_84 6 rfl ?_
  refine pz_aload_n hC dX2_tellYear_86 1 rfl ?_
  refine pz_getI hC dX2_tellYear_87 fa_X2_18 hf (fun v1 hf => ?_)
  refine pz_icmp_ge hC dX2_tellYear_90 hf (fun _ hf => ?_) (fun _ hf => ?_)
  · refine pz_iconst (v := (0 : Int32)) hC dX2_tellYear_103 (by decide) ?_
    refine pz_sub [1, 2, 3, 4, 5, 0] rfl ?_
    exact tX2_tellYear_104 hC hK hf
  · refine pz_aload_n hC dX2_tellYear_93 1 rfl ?_
    refine pz_getR hC dX2_tellYear_94 fa_X2_15 hf (fun v2 hf => ?_)
    refine pz_iload hC dX2_tellYear_97 6 rfl ?_
    refine pz_iald hC dX2_tellYear_99 hf (fun v3 hf => ?_)
    refine pz_goto hC dX2_tellYear_100 ?_
    refine pz_sub [1, 2, 3, 4, 5, 0] rfl ?_
    exact tX2_tellYear_104 hC hK hf
def fX2_tellYear_63 (f : pz_H) (l0 : Nat) (l1 : Int32) (l2 : Int32) (l3 : Int32) (l4 : Int32) (s0 : Int32) : Option (Int32 × pz_H) :=
  if l3 = 0 then fX2_tellYear_82 f l0 l1 l2 l3 l4 s0 ((100000 : Int32)) else
  (pz_gR f l0 1 1).bind fun v1 =>
  (pz_aI f v1 0 ((l3 - (1 : Int32)))).bind fun v2 =>
  fX2_tellYear_82 f l0 l1 l2 l3 l4 s0 v2
theorem tX2_tellYear_63 {G : pz_G} {C : pz_C} {f : pz_H} {l0 : Nat} {l1 : Int32} {l2 : Int32} {l3 : Int32} {l4 : Int32} {s0 : Int32} {r : (Int32 × pz_H)} (hC : pz_OK G C cX2_tellYear 8 RX2) (hK : pz_K C (some .boolean) 1 22 0 0) (hf : fX2_tellYear_63 f l0 l1 l2 l3 l4 s0 = some r) : pz_W G C 8 63 [(0, .ref l0), (1, .int l1), (2, .int l2), (3, .int l3), (4, .int l4)] [.int s0] f 0 0 (pz_Q G C (some (.int r.1)) r.2 0 0) := by
  unfold fX2_tellYear_63 at hf
  refine pz_istore hC dX2_tellYear_63 (by decide) rfl ?_
  refine pz_iload_n hC dX2_tellYear_65 4 rfl ?_
  refine pz_if_ne hC dX2_tellYear_66 hf (fun _ hf => ?_) (fun _ hf => ?_)
  · refine pz_aload_n hC dX2_tellYear_74 1 rfl ?_
    refine pz_getR hC dX2_tellYear_75 fa_X2_15 hf (fun v1 hf => ?_)
    refine pz_iload_n hC dX2_tellYear_78 4 rfl ?_
    refine pz_iconst (v := (1 : Int32)) hC dX2_tellYear_79 (by decide) ?_
    refine pz_isub hC dX2_tellYear_80 ?_
    refine pz_iald hC dX2_tellYear_81 hf (fun v2 hf => ?_)
    refine pz_sub [1, 2, 3, 4, 5, 0] rfl ?_
    exact tX2_tellYear_82 hC hK hf
  · refine pz_ldc hC dX2_tellYear_69 ck_X2_22 ?_
    refine pz_goto hC dX2_tellYear_71 ?_
    refine pz_sub [1, 2, 3, 4, 5, 0] rfl ?_
    exact tX2_tellYear_82 hC hK hf
def fX2_tellYear_49 (f : pz_H) (l0 : Nat) (l1 : Int32) (l2 : Int32) (l3 : Int32) (s0 : Int32) : Option (Int32 × pz_H) :=
  if s0 = 0 then fX2_tellYear_63 f l0 l1 l2 l3 s0 l3 else
  fX2_tellYear_63 f l0 l1 l2 l3 s0 ((l3 + (1 : Int32)))
theorem tX2_tellYear_49 {G : pz_G} {C : pz_C} {f : pz_H} {l0 : Nat} {l1 : Int32} {l2 : Int32} {l3 : Int32} {s0 : Int32} {r : (Int32 × pz_H)} (hC : pz_OK G C cX2_tellYear 8 RX2) (hK : pz_K C (some .boolean) 1 22 0 0) (hf : fX2_tellYear_49 f l0 l1 l2 l3 s0 = some r) : pz_W G C 8 49 [(0, .ref l0), (1, .int l1), (2, .int l2), (3, .int l3)] [.int s0] f 0 0 (pz_Q G C (some (.int r.1)) r.2 0 0) := by
  unfold fX2_tellYear_49 at hf
  refine pz_istore hC dX2_tellYear_49 (by decide) rfl ?_
  refine pz_iload hC dX2_tellYear_51 0 rfl ?_
  refine pz_if_eq hC dX2_tellYear_53 hf (fun _ hf => ?_) (fun _ hf => ?_)
  · refine pz_iload_n hC dX2_tellYear_62 4 rfl ?_
    refine pz_sub [1, 2, 3, 4, 0] rfl ?_
    exact tX2_tellYear_63 hC hK hf
  · refine pz_iload_n hC dX2_tellYear_56 4 rfl ?_
    refine pz_iconst (v := (1 : Int32)) hC dX2_tellYear_57 (by decide) ?_
    refine pz_iadd hC dX2_tellYear_58 ?_
    refine pz_goto hC dX2_tellYear_59 ?_
    refine pz_sub [1, 2, 3, 4, 0] rfl ?_
    exact tX2_tellYear_63 hC hK hf
def fX2_tellYear_48 (f : pz_H) (l0 : Nat) (l1 : Int32) (l2 : Int32) (l3 : Int32) : Option (Int32 × pz_H) :=
  fX2_tellYear_49 f l0 l1 l2 l3 ((0 : Int32))
theorem tX2_tellYear_48 {G : pz_G} {C : pz_C} {f : pz_H} {l0 : Nat} {l1 : Int32} {l2 : Int32} {l3 : Int32} {r : (Int32 × pz_H)} (hC : pz_OK G C cX2_tellYear 8 RX2) (hK : pz_K C (some .boolean) 1 22 0 0) (hf : fX2_tellYear_48 f l0 l1 l2 l3 = some r) : pz_W G C 8 48 [(0, .ref l0), (1, .int l1), (2, .int l2), (3, .int l3)] [] f 0 0 (pz_Q G C (some (.int r.1)) r.2 0 0) := by
  unfold fX2_tellYear_48 at hf
  refine pz_iconst (v := (0 : Int32)) hC dX2_tellYear_48 (by decide) ?_
  exact tX2_tellYear_49 hC hK hf
def fX2_tellYear_26 (f : pz_H) (l0 : Nat) (l1 : Int32) (l2 : Int32) (l3 : Int32) : Option (Int32 × pz_H) :=
  (pz_gI f l0 1 2).bind fun v1 =>
  if v1 ≤ l3 then fX2_tellYear_48 f l0 l1 l2 l3 else
  (pz_gR f l0 1 0).bind fun v2 =>
  (pz_aI f v2 0 l3).bind fun v3 =>
  if v3 = l1 then fX2_tellYear_49 f l0 l1 l2 l3 ((1 : Int32)) else
  fX2_tellYear_48 f l0 l1 l2 l3
theorem tX2_tellYear_26 {G : pz_G} {C : pz_C} {f : pz_H} {l0 : Nat} {l1 : Int32} {l2 : Int32} {l3 : Int32} {r : (Int32 × pz_H)} (hC : pz_OK G C cX2_tellYear 8 RX2) (hK : pz_K C (some .boolean) 1 22 0 0) (hf : fX2_tellYear_26 f l0 l1 l2 l3 = some r) : pz_W G C 8 26 [(0, .ref l0), (1, .int l1), (2, .int l2), (3, .int l3)] [] f 0 0 (pz_Q G C (some (.int r.1)) r.2 0 0) := by
  unfold fX2_tellYear_26 at hf
  refine pz_iload_n hC dX2_tellYear_26 3 rfl ?_
  refine pz_aload_n hC dX2_tellYear_27 0 rfl ?_
  refine pz_getI hC dX2_tellYear_28 fa_X2_18 hf (fun v1 hf => ?_)
  refine pz_icmp_ge hC dX2_tellYear_31 hf (fun _ hf => ?_) (fun _ hf => ?_)
  · exact tX2_tellYear_48 hC hK hf
  · refine pz_aload_n hC dX2_tellYear_34 0 rfl ?_
    refine pz_getR hC dX2_tellYear_35 fa_X2_9 hf (fun v2 hf => ?_)
    refine pz_iload_n hC dX2_tellYear_38 3 rfl ?_
    refine pz_iald hC dX2_tellYear_39 hf (fun v3 hf => ?_)
    refine pz_iload_n hC dX2_tellYear_40 1 rfl ?_
    refine pz_icmp_ne hC dX2_tellYear_41 hf (fun _ hf => ?_) (fun _ hf => ?_)
    · exact tX2_tellYear_48 hC hK hf
    · refine pz_iconst (v := (1 : Int32)) hC dX2_tellYear_44 (by decide) ?_
      refine pz_goto hC dX2_tellYear_45 ?_
      exact tX2_tellYear_49 hC hK hf
def fX2_tellYear_2b (k2 : pz_H → Nat → Int32 → Int32 → Int32 → Option (Int32 × pz_H)) (f : pz_H) (l0 : Nat) (l1 : Int32) (l2 : Int32) (l3 : Int32) : Option (Int32 × pz_H) :=
  (pz_gI f l0 1 2).bind fun v1 =>
  if v1 ≤ l3 then fX2_tellYear_26 f l0 l1 l2 l3 else
  (pz_gR f l0 1 0).bind fun v2 =>
  (pz_aI f v2 0 l3).bind fun v3 =>
  if l1 ≤ v3 then fX2_tellYear_26 f l0 l1 l2 l3 else
  k2 f l0 l1 l2 ((l3 + 1))
theorem tX2_tellYear_2b {G : pz_G} {C : pz_C} {f : pz_H} {k2 : pz_H → Nat → Int32 → Int32 → Int32 → Option (Int32 × pz_H)} {l0 : Nat} {l1 : Int32} {l2 : Int32} {l3 : Int32} {r : (Int32 × pz_H)} (hC : pz_OK G C cX2_tellYear 8 RX2) (hK : pz_K C (some .boolean) 1 22 0 0) (hk2 : ∀ (g : pz_H) (a0 : Nat) (a1 : Int32) (a2 : Int32) (a3 : Int32), k2 g a0 a1 a2 a3 = some r → pz_W G C 8 2 [(0, .ref a0), (1, .int a1), (2, .int a2), (3, .int a3)] [] g 0 0 (pz_Q G C (some (.int r.1)) r.2 0 0)) (hf : fX2_tellYear_2b k2 f l0 l1 l2 l3 = some r) : pz_W G C 8 2 [(0, .ref l0), (1, .int l1), (2, .int l2), (3, .int l3)] [] f 0 0 (pz_Q G C (some (.int r.1)) r.2 0 0) := by
  unfold fX2_tellYear_2b at hf
  refine pz_iload_n hC dX2_tellYear_2 3 rfl ?_
  refine pz_aload_n hC dX2_tellYear_3 0 rfl ?_
  refine pz_getI hC dX2_tellYear_4 fa_X2_18 hf (fun v1 hf => ?_)
  refine pz_icmp_ge hC dX2_tellYear_7 hf (fun _ hf => ?_) (fun _ hf => ?_)
  · exact tX2_tellYear_26 hC hK hf
  · refine pz_aload_n hC dX2_tellYear_10 0 rfl ?_
    refine pz_getR hC dX2_tellYear_11 fa_X2_9 hf (fun v2 hf => ?_)
    refine pz_iload_n hC dX2_tellYear_14 3 rfl ?_
    refine pz_iald hC dX2_tellYear_15 hf (fun v3 hf => ?_)
    refine pz_iload_n hC dX2_tellYear_16 1 rfl ?_
    refine pz_icmp_ge hC dX2_tellYear_17 hf (fun _ hf => ?_) (fun _ hf => ?_)
    · exact tX2_tellYear_26 hC hK hf
    · refine pz_iinc (v := (l3 + 1)) hC dX2_tellYear_20 3 rfl rfl (by decide) rfl ?_
      refine pz_goto hC dX2_tellYear_23 ?_
      refine pz_sub [1, 2, 3, 0] rfl ?_
      exact hk2 _ _ _ _ _ hf
def fX2_tellYear_2 : Nat → pz_H → Nat → Int32 → Int32 → Int32 → Option (Int32 × pz_H)
  | 0, _, _, _, _, _ => none
  | n + 1, f, l0, l1, l2, l3 => fX2_tellYear_2b (fX2_tellYear_2 n) f l0 l1 l2 l3
theorem tX2_tellYear_2 {G : pz_G} {C : pz_C} {r : (Int32 × pz_H)} (hC : pz_OK G C cX2_tellYear 8 RX2) (hK : pz_K C (some .boolean) 1 22 0 0) : ∀ (N : Nat) (f : pz_H) (l0 : Nat) (l1 : Int32) (l2 : Int32) (l3 : Int32), fX2_tellYear_2 N f l0 l1 l2 l3 = some r → pz_W G C 8 2 [(0, .ref l0), (1, .int l1), (2, .int l2), (3, .int l3)] [] f 0 0 (pz_Q G C (some (.int r.1)) r.2 0 0) := by
  intro N
  induction N with
  | zero => intro f l0 l1 l2 l3 hf; cases hf
  | succ N ih => intro f l0 l1 l2 l3 hf; exact tX2_tellYear_2b hC hK (fun f l0 l1 l2 l3 hf => ih f l0 l1 l2 l3 hf) hf
def fnX2_tellYear (f : pz_H) (a0 : Nat) (p1 : Int32) (p2 : Int32) : Option (Int32 × pz_H) :=
  (pz_is f a0 1).bind fun _ =>
  fX2_tellYear_2 pz_F f a0 p1 p2 ((0 : Int32))
theorem mX2_tellYear {l : Launch} {G : pz_G} {f : pz_H} {a0 : Nat} {p1 : Int32} {p2 : Int32} {r : (Int32 × pz_H)} (hf : fnX2_tellYear f a0 p1 p2 = some r) : pz_Met l G yX2_tellYear cX2_tellYear 8 (some .boolean) 1 22 0 0 [.ref a0, .int p1, .int p2] f (some (.int r.1)) r.2 ∧ pz_is f a0 1 = some () := by
  unfold fnX2_tellYear at hf
  obtain ⟨_, h0, hf⟩ := pz_bd hf
  refine ⟨pz_enter (by decide +kernel) (Nat.le_of_ble_eq_true rfl) (fun C hl hC hK hnm => ?_), h0⟩
  subst hl
  refine pz_sub (lv' := [(0, .ref a0), (1, .int p1), (2, .int p2)]) [0, 1, 2] rfl ?_
  refine pz_iconst (v := (0 : Int32)) hC dX2_tellYear_0 (by decide) ?_
  refine pz_istore_n hC dX2_tellYear_1 (by decide) rfl ?_
  refine pz_sub [1, 2, 3, 0] rfl ?_
  exact tX2_tellYear_2 hC hK _ _ _ _ _ _ hf
def fX2_livesAt_120 (f : pz_H) (l1 : Int32) (l3 : Int32) (l4 : Int32) (l5 : Int32) (s0 : Int32) : Option Int32 :=
  if 0 < (l5 - l3) then if (l5 - l3) = 0 then none else
  some ((((l4 * (l5 - l1)) + (s0 * (l1 - l3))) / (l5 - l3))) else
  some l4
theorem tX2_livesAt_120 {G : pz_G} {C : pz_C} {f : pz_H} {l1 : Int32} {l3 : Int32} {l4 : Int32} {l5 : Int32} {s0 : Int32} {r : Int32} (hC : pz_OK G C cX2_livesAt 8 RX2) (hK : pz_K C (some .int) 0 0 0 0) (hf : fX2_livesAt_120 f l1 l3 l4 l5 s0 = some r) : pz_W G C 8 120 [(1, .int l1), (3, .int l3), (4, .int l4), (5, .int l5)] [.int s0] f 0 0 (pz_Q G C (some (.int r)) f 0 0) := by
  unfold fX2_livesAt_120 at hf
  refine pz_istore hC dX2_livesAt_120 (by decide) rfl ?_
  refine pz_iload hC dX2_livesAt_122 4 rfl ?_
  refine pz_iload_n hC dX2_livesAt_124 2 rfl ?_
  refine pz_isub hC dX2_livesAt_125 ?_
  refine pz_istore hC dX2_livesAt_126 (by decide) rfl ?_
  refine pz_iload hC dX2_livesAt_128 0 rfl ?_
  refine pz_if_gt hC dX2_livesAt_130 hf (fun _ hf => ?_) (fun _ hf => ?_)
  · refine pz_iload hC dX2_livesAt_136 4 rfl ?_
    refine pz_iload hC dX2_livesAt_138 5 rfl ?_
    refine pz_iload_n hC dX2_livesAt_140 2 rfl ?_
    refine pz_isub hC dX2_livesAt_141 ?_
    refine pz_imul hC dX2_livesAt_142 ?_
    refine pz_iload hC dX2_livesAt_143 1 rfl ?_
    refine pz_iload_n hC dX2_livesAt_145 2 rfl ?_
    refine pz_iload_n hC dX2_livesAt_146 3 rfl ?_
    refine pz_isub hC dX2_livesAt_147 ?_
    refine pz_imul hC dX2_livesAt_148 ?_
    refine pz_iadd hC dX2_livesAt_149 ?_
    refine pz_iload hC dX2_livesAt_150 0 rfl ?_
    refine pz_idiv hC dX2_livesAt_152 hf (fun hf => ?_)
    exact pz_iret hC hK dX2_livesAt_153 hf
  · refine pz_iload hC dX2_livesAt_133 4 rfl ?_
    exact pz_iret hC hK dX2_livesAt_135 hf
def fX2_livesAt_100 (f : pz_H) (l0 : Nat) (l1 : Int32) (l2 : Int32) (l3 : Int32) (l4 : Int32) (s0 : Int32) : Option Int32 :=
  (pz_gI f l0 1 2).bind fun v1 =>
  if l2 = v1 then fX2_livesAt_120 f l1 l3 l4 s0 ((0 : Int32)) else
  (pz_gR f l0 1 1).bind fun v2 =>
  (pz_aI f v2 0 l2).bind fun v3 =>
  fX2_livesAt_120 f l1 l3 l4 s0 v3
theorem tX2_livesAt_100 {G : pz_G} {C : pz_C} {f : pz_H} {l0 : Nat} {l1 : Int32} {l2 : Int32} {l3 : Int32} {l4 : Int32} {s0 : Int32} {r : Int32} (hC : pz_OK G C cX2_livesAt 8 RX2) (hK : pz_K C (some .int) 0 0 0 0) (hf : fX2_livesAt_100 f l0 l1 l2 l3 l4 s0 = some r) : pz_W G C 8 100 [(0, .ref l0), (1, .int l1), (2, .int l2), (3, .int l3), (4, .int l4)] [.int s0] f 0 0 (pz_Q G C (some (.int r)) f 0 0) := by
  unfold fX2_livesAt_100 at hf
  refine pz_istore hC dX2_livesAt_100 (by decide) rfl ?_
  refine pz_iload_n hC dX2_livesAt_102 3 rfl ?_
  refine pz_aload_n hC dX2_livesAt_103 1 rfl ?_
  refine pz_getI hC dX2_livesAt_104 fa_X2_18 hf (fun v1 hf => ?_)
  refine pz_icmp_ne hC dX2_livesAt_107 hf (fun _ hf => ?_) (fun _ hf => ?_)
  · refine pz_aload_n hC dX2_livesAt_114 1 rfl ?_
    refine pz_getR hC dX2_livesAt_115 fa_X2_15 hf (fun v2 hf => ?_)
    refine pz_iload_n hC dX2_livesAt_118 3 rfl ?_
    refine pz_iald hC dX2_livesAt_119 hf (fun v3 hf => ?_)
    refine pz_sub [2, 4, 5, 0] rfl ?_
    exact tX2_livesAt_120 hC hK hf
  · refine pz_iconst (v := (0 : Int32)) hC dX2_livesAt_110 (by decide) ?_
    refine pz_goto hC dX2_livesAt_111 ?_
    refine pz_sub [2, 4, 5, 0] rfl ?_
    exact tX2_livesAt_120 hC hK hf
def fX2_livesAt_75 (f : pz_H) (l0 : Nat) (l1 : Int32) (l2 : Int32) (l3 : Int32) (s0 : Int32) : Option Int32 :=
  (pz_gI f l0 1 2).bind fun v1 =>
  if l2 = v1 then fX2_livesAt_100 f l0 l1 l2 l3 s0 ((1440 : Int32)) else
  (pz_gR f l0 1 0).bind fun v2 =>
  (pz_aI f v2 0 l2).bind fun v3 =>
  fX2_livesAt_100 f l0 l1 l2 l3 s0 (((12 : Int32) * v3))
theorem tX2_livesAt_75 {G : pz_G} {C : pz_C} {f : pz_H} {l0 : Nat} {l1 : Int32} {l2 : Int32} {l3 : Int32} {s0 : Int32} {r : Int32} (hC : pz_OK G C cX2_livesAt 8 RX2) (hK : pz_K C (some .int) 0 0 0 0) (hf : fX2_livesAt_75 f l0 l1 l2 l3 s0 = some r) : pz_W G C 8 75 [(0, .ref l0), (1, .int l1), (2, .int l2), (3, .int l3)] [.int s0] f 0 0 (pz_Q G C (some (.int r)) f 0 0) := by
  unfold fX2_livesAt_75 at hf
  refine pz_istore hC dX2_livesAt_75 (by decide) rfl ?_
  refine pz_iload_n hC dX2_livesAt_77 3 rfl ?_
  refine pz_aload_n hC dX2_livesAt_78 1 rfl ?_
  refine pz_getI hC dX2_livesAt_79 fa_X2_18 hf (fun v1 hf => ?_)
  refine pz_icmp_ne hC dX2_livesAt_82 hf (fun _ hf => ?_) (fun _ hf => ?_)
  · refine pz_bipush (v := (12 : Int32)) hC dX2_livesAt_91 (by decide) ?_
    refine pz_aload_n hC dX2_livesAt_93 1 rfl ?_
    refine pz_getR hC dX2_livesAt_94 fa_X2_9 hf (fun v2 hf => ?_)
    refine pz_iload_n hC dX2_livesAt_97 3 rfl ?_
    refine pz_iald hC dX2_livesAt_98 hf (fun v3 hf => ?_)
    refine pz_imul hC dX2_livesAt_99 ?_
    refine pz_sub [1, 2, 3, 4, 0] rfl ?_
    exact tX2_livesAt_100 hC hK hf
  · refine pz_sipush (v := (1440 : Int32)) hC dX2_livesAt_85 (by decide) ?_
    refine pz_goto hC dX2_livesAt_88 ?_
    refine pz_sub [1, 2, 3, 4, 0] rfl ?_
    exact tX2_livesAt_100 hC hK hf
def fX2_livesAt_57 (f : pz_H) (l0 : Nat) (l1 : Int32) (l2 : Int32) (s0 : Int32) : Option Int32 :=
  if l2 = 0 then fX2_livesAt_75 f l0 l1 l2 s0 ((100000 : Int32)) else
  (pz_gR f l0 1 1).bind fun v1 =>
  (pz_aI f v1 0 ((l2 - (1 : Int32)))).bind fun v2 =>
  fX2_livesAt_75 f l0 l1 l2 s0 v2
theorem tX2_livesAt_57 {G : pz_G} {C : pz_C} {f : pz_H} {l0 : Nat} {l1 : Int32} {l2 : Int32} {s0 : Int32} {r : Int32} (hC : pz_OK G C cX2_livesAt 8 RX2) (hK : pz_K C (some .int) 0 0 0 0) (hf : fX2_livesAt_57 f l0 l1 l2 s0 = some r) : pz_W G C 8 57 [(0, .ref l0), (1, .int l1), (2, .int l2)] [.int s0] f 0 0 (pz_Q G C (some (.int r)) f 0 0) := by
  unfold fX2_livesAt_57 at hf
  refine pz_istore_n hC dX2_livesAt_57 (by decide) rfl ?_
  refine pz_iload_n hC dX2_livesAt_58 3 rfl ?_
  refine pz_if_ne hC dX2_livesAt_59 hf (fun _ hf => ?_) (fun _ hf => ?_)
  · refine pz_aload_n hC dX2_livesAt_67 1 rfl ?_
    refine pz_getR hC dX2_livesAt_68 fa_X2_15 hf (fun v1 hf => ?_)
    refine pz_iload_n hC dX2_livesAt_71 3 rfl ?_
    refine pz_iconst (v := (1 : Int32)) hC dX2_livesAt_72 (by decide) ?_
    refine pz_isub hC dX2_livesAt_73 ?_
    refine pz_iald hC dX2_livesAt_74 hf (fun v2 hf => ?_)
    refine pz_sub [1, 2, 3, 0] rfl ?_
    exact tX2_livesAt_75 hC hK hf
  · refine pz_ldc hC dX2_livesAt_62 ck_X2_22 ?_
    refine pz_goto hC dX2_livesAt_64 ?_
    refine pz_sub [1, 2, 3, 0] rfl ?_
    exact tX2_livesAt_75 hC hK hf
def fX2_livesAt_38 (f : pz_H) (l0 : Nat) (l1 : Int32) (l2 : Int32) : Option Int32 :=
  if l2 = 0 then fX2_livesAt_57 f l0 l1 l2 ((0 : Int32)) else
  (pz_gR f l0 1 0).bind fun v1 =>
  (pz_aI f v1 0 ((l2 - (1 : Int32)))).bind fun v2 =>
  fX2_livesAt_57 f l0 l1 l2 (((12 : Int32) * v2))
theorem tX2_livesAt_38 {G : pz_G} {C : pz_C} {f : pz_H} {l0 : Nat} {l1 : Int32} {l2 : Int32} {r : Int32} (hC : pz_OK G C cX2_livesAt 8 RX2) (hK : pz_K C (some .int) 0 0 0 0) (hf : fX2_livesAt_38 f l0 l1 l2 = some r) : pz_W G C 8 38 [(0, .ref l0), (1, .int l1), (2, .int l2)] [] f 0 0 (pz_Q G C (some (.int r)) f 0 0) := by
  unfold fX2_livesAt_38 at hf
  refine pz_iload_n hC dX2_livesAt_38 2 rfl ?_
  refine pz_if_ne hC dX2_livesAt_39 hf (fun _ hf => ?_) (fun _ hf => ?_)
  · refine pz_bipush (v := (12 : Int32)) hC dX2_livesAt_46 (by decide) ?_
    refine pz_aload_n hC dX2_livesAt_48 0 rfl ?_
    refine pz_getR hC dX2_livesAt_49 fa_X2_9 hf (fun v1 hf => ?_)
    refine pz_iload_n hC dX2_livesAt_52 2 rfl ?_
    refine pz_iconst (v := (1 : Int32)) hC dX2_livesAt_53 (by decide) ?_
    refine pz_isub hC dX2_livesAt_54 ?_
    refine pz_iald hC dX2_livesAt_55 hf (fun v2 hf => ?_)
    refine pz_imul hC dX2_livesAt_56 ?_
    exact tX2_livesAt_57 hC hK hf
  · refine pz_iconst (v := (0 : Int32)) hC dX2_livesAt_42 (by decide) ?_
    refine pz_goto hC dX2_livesAt_43 ?_
    exact tX2_livesAt_57 hC hK hf
def fX2_livesAt_11b (k11 : Nat → Int32 → Int32 → Option Int32) (f : pz_H) (l0 : Nat) (l1 : Int32) (l2 : Int32) : Option Int32 :=
  (pz_gI f l0 1 2).bind fun v1 =>
  if v1 ≤ l2 then fX2_livesAt_38 f l0 l1 l2 else
  (pz_gR f l0 1 0).bind fun v2 =>
  (pz_aI f v2 0 l2).bind fun v3 =>
  if l1 < ((12 : Int32) * v3) then fX2_livesAt_38 f l0 l1 l2 else
  k11 l0 l1 ((l2 + 1))
theorem tX2_livesAt_11b {G : pz_G} {C : pz_C} {f : pz_H} {k11 : Nat → Int32 → Int32 → Option Int32} {l0 : Nat} {l1 : Int32} {l2 : Int32} {r : Int32} (hC : pz_OK G C cX2_livesAt 8 RX2) (hK : pz_K C (some .int) 0 0 0 0) (hk11 : ∀ (a0 : Nat) (a1 : Int32) (a2 : Int32), k11 a0 a1 a2 = some r → pz_W G C 8 11 [(0, .ref a0), (1, .int a1), (2, .int a2)] [] f 0 0 (pz_Q G C (some (.int r)) f 0 0)) (hf : fX2_livesAt_11b k11 f l0 l1 l2 = some r) : pz_W G C 8 11 [(0, .ref l0), (1, .int l1), (2, .int l2)] [] f 0 0 (pz_Q G C (some (.int r)) f 0 0) := by
  unfold fX2_livesAt_11b at hf
  refine pz_iload_n hC dX2_livesAt_11 2 rfl ?_
  refine pz_aload_n hC dX2_livesAt_12 0 rfl ?_
  refine pz_getI hC dX2_livesAt_13 fa_X2_18 hf (fun v1 hf => ?_)
  refine pz_icmp_ge hC dX2_livesAt_16 hf (fun _ hf => ?_) (fun _ hf => ?_)
  · exact tX2_livesAt_38 hC hK hf
  · refine pz_bipush (v := (12 : Int32)) hC dX2_livesAt_19 (by decide) ?_
    refine pz_aload_n hC dX2_livesAt_21 0 rfl ?_
    refine pz_getR hC dX2_livesAt_22 fa_X2_9 hf (fun v2 hf => ?_)
    refine pz_iload_n hC dX2_livesAt_25 2 rfl ?_
    refine pz_iald hC dX2_livesAt_26 hf (fun v3 hf => ?_)
    refine pz_imul hC dX2_livesAt_27 ?_
    refine pz_iload_n hC dX2_livesAt_28 1 rfl ?_
    refine pz_icmp_gt hC dX2_livesAt_29 hf (fun _ hf => ?_) (fun _ hf => ?_)
    · exact tX2_livesAt_38 hC hK hf
    · refine pz_iinc (v := (l2 + 1)) hC dX2_livesAt_32 2 rfl rfl (by decide) rfl ?_
      refine pz_goto hC dX2_livesAt_35 ?_
      refine pz_sub [1, 2, 0] rfl ?_
      exact hk11 _ _ _ hf
def fX2_livesAt_11 (f : pz_H) : Nat → Nat → Int32 → Int32 → Option Int32
  | 0, _, _, _ => none
  | n + 1, l0, l1, l2 => fX2_livesAt_11b (fX2_livesAt_11 f n) f l0 l1 l2
theorem tX2_livesAt_11 {G : pz_G} {C : pz_C} {f : pz_H} {r : Int32} (hC : pz_OK G C cX2_livesAt 8 RX2) (hK : pz_K C (some .int) 0 0 0 0) : ∀ (N : Nat) (l0 : Nat) (l1 : Int32) (l2 : Int32), fX2_livesAt_11 f N l0 l1 l2 = some r → pz_W G C 8 11 [(0, .ref l0), (1, .int l1), (2, .int l2)] [] f 0 0 (pz_Q G C (some (.int r)) f 0 0) := by
  intro N
  induction N with
  | zero => intro l0 l1 l2 hf; cases hf
  | succ N ih => intro l0 l1 l2 hf; exact tX2_livesAt_11b hC hK (fun l0 l1 l2 hf => ih l0 l1 l2 hf) hf
def fnX2_livesAt (f : pz_H) (a0 : Nat) (p1 : Int32) : Option Int32 :=
  (pz_is f a0 1).bind fun _ =>
  if p1 < (1440 : Int32) then fX2_livesAt_11 f pz_F a0 p1 ((0 : Int32)) else
  some ((0 : Int32))
theorem mX2_livesAt {l : Launch} {G : pz_G} {f : pz_H} {a0 : Nat} {p1 : Int32} {r : Int32} (hf : fnX2_livesAt f a0 p1 = some r) : pz_Met l G yX2_livesAt cX2_livesAt 8 (some .int) 0 0 0 0 [.ref a0, .int p1] f (some (.int r)) f ∧ pz_is f a0 1 = some () := by
  unfold fnX2_livesAt at hf
  obtain ⟨_, h0, hf⟩ := pz_bd hf
  refine ⟨pz_enter (by decide +kernel) (Nat.le_of_ble_eq_true rfl) (fun C hl hC hK hnm => ?_), h0⟩
  subst hl
  refine pz_sub (lv' := [(0, .ref a0), (1, .int p1)]) [0, 1] rfl ?_
  refine pz_iload_n hC dX2_livesAt_0 1 rfl ?_
  refine pz_sipush (v := (1440 : Int32)) hC dX2_livesAt_1 (by decide) ?_
  refine pz_icmp_lt hC dX2_livesAt_4 hf (fun _ hf => ?_) (fun _ hf => ?_)
  · refine pz_iconst (v := (0 : Int32)) hC dX2_livesAt_9 (by decide) ?_
    refine pz_istore_n hC dX2_livesAt_10 (by decide) rfl ?_
    refine pz_sub [1, 2, 0] rfl ?_
    exact tX2_livesAt_11 hC hK _ _ _ _ hf
  · refine pz_iconst (v := (0 : Int32)) hC dX2_livesAt_7 (by decide) ?_
    exact pz_iret hC hK dX2_livesAt_8 hf
def fX3_beginAnew_17b (k17 : pz_H → Nat → Int32 → Option pz_H) (f : pz_H) (l0 : Nat) (l2 : Int32) : Option pz_H :=
  if (5 : Int32) ≤ l2 then (pz_sV f l0 2 5 (.int (0 : Int32))).bind fun f1 =>
  (pz_sV f1 l0 2 6 (.int (0 : Int32))).bind fun f2 =>
  (pz_sV f2 l0 2 8 (.int (0 : Int32))).bind fun f3 =>
  (pz_gR f3 l0 2 9).bind fun v4 =>
  (pz_sV f3 v4 1 2 (.int (0 : Int32))).bind fun f5 =>
  some f5 else
  (pz_gR f l0 2 3).bind fun v6 =>
  (pz_aI f ((f.2.1 0)) 10 l2).bind fun v7 =>
  (pz_tI f v6 0 l2 v7).bind fun f8 =>
  k17 f8 l0 ((l2 + 1))
theorem tX3_beginAnew_17b {G : pz_G} {C : pz_C} {f : pz_H} {k17 : pz_H → Nat → Int32 → Option pz_H} {l0 : Nat} {l2 : Int32} {r : pz_H} (hC : pz_OK G C cX3_beginAnew 3 RX3) (hK : pz_K C none 0 0 0 0) (hk17 : ∀ (g : pz_H) (a0 : Nat) (a2 : Int32), k17 g a0 a2 = some r → pz_W G C 3 17 [(0, .ref a0), (2, .int a2)] [] g 0 0 (pz_Q G C none r 0 0)) (hf : fX3_beginAnew_17b k17 f l0 l2 = some r) : pz_W G C 3 17 [(0, .ref l0), (2, .int l2)] [] f 0 0 (pz_Q G C none r 0 0) := by
  unfold fX3_beginAnew_17b at hf
  refine pz_iload_n hC dX3_beginAnew_17 1 rfl ?_
  refine pz_iconst (v := (5 : Int32)) hC dX3_beginAnew_18 (by decide) ?_
  refine pz_icmp_ge hC dX3_beginAnew_19 hf (fun _ hf => ?_) (fun _ hf => ?_)
  · refine pz_aload_n hC dX3_beginAnew_39 0 rfl ?_
    refine pz_iconst (v := (0 : Int32)) hC dX3_beginAnew_40 (by decide) ?_
    refine pz_putV hC dX3_beginAnew_41 fp_X3_53 rfl rfl hf (fun f1 hf => ?_)
    refine pz_aload_n hC dX3_beginAnew_44 0 rfl ?_
    refine pz_iconst (v := (0 : Int32)) hC dX3_beginAnew_45 (by decide) ?_
    refine pz_putV hC dX3_beginAnew_46 fp_X3_56 rfl rfl hf (fun f2 hf => ?_)
    refine pz_aload_n hC dX3_beginAnew_49 0 rfl ?_
    refine pz_iconst (v := (0 : Int32)) hC dX3_beginAnew_50 (by decide) ?_
    refine pz_putV hC dX3_beginAnew_51 fp_X3_59 rfl rfl hf (fun f3 hf => ?_)
    refine pz_aload_n hC dX3_beginAnew_54 0 rfl ?_
    refine pz_getR hC dX3_beginAnew_55 fa_X3_30 hf (fun v4 hf => ?_)
    refine pz_iconst (v := (0 : Int32)) hC dX3_beginAnew_58 (by decide) ?_
    refine pz_putV hC dX3_beginAnew_59 fp_X3_62 rfl rfl hf (fun f5 hf => ?_)
    exact pz_vret hC hK dX3_beginAnew_62 hf
  · refine pz_aload_n hC dX3_beginAnew_22 0 rfl ?_
    refine pz_getR hC dX3_beginAnew_23 fa_X3_9 hf (fun v6 hf => ?_)
    refine pz_iload_n hC dX3_beginAnew_26 1 rfl ?_
    refine pz_gets (i := 0) hC dX3_beginAnew_27 rfl (Or.inr ⟨"PartedPension", sl_X3_50⟩) ?_
    refine pz_iload_n hC dX3_beginAnew_30 1 rfl ?_
    refine pz_ialdS hC dX3_beginAnew_31 hf (fun v7 hf => ?_)
    refine pz_iast hC dX3_beginAnew_32 hf (fun f8 hf => ?_)
    refine pz_iinc (v := (l2 + 1)) hC dX3_beginAnew_33 1 rfl rfl (by decide) rfl ?_
    refine pz_goto hC dX3_beginAnew_36 ?_
    refine pz_sub [1, 0] rfl ?_
    exact hk17 _ _ _ hf
def fX3_beginAnew_17 : Nat → pz_H → Nat → Int32 → Option pz_H
  | 0, _, _, _ => none
  | n + 1, f, l0, l2 => fX3_beginAnew_17b (fX3_beginAnew_17 n) f l0 l2
theorem tX3_beginAnew_17 {G : pz_G} {C : pz_C} {r : pz_H} (hC : pz_OK G C cX3_beginAnew 3 RX3) (hK : pz_K C none 0 0 0 0) : ∀ (N : Nat) (f : pz_H) (l0 : Nat) (l2 : Int32), fX3_beginAnew_17 N f l0 l2 = some r → pz_W G C 3 17 [(0, .ref l0), (2, .int l2)] [] f 0 0 (pz_Q G C none r 0 0) := by
  intro N
  induction N with
  | zero => intro f l0 l2 hf; cases hf
  | succ N ih => intro f l0 l2 hf; exact tX3_beginAnew_17b hC hK (fun f l0 l2 hf => ih f l0 l2 hf) hf
def fnX3_beginAnew (f : pz_H) (a0 : Nat) (p1 : Int32) : Option pz_H :=
  (pz_is f a0 2).bind fun _ =>
  (pz_sV f a0 2 0 (.int p1)).bind fun f1 =>
  (pz_sV f1 a0 2 1 (.int ((-1) : Int32))).bind fun f2 =>
  (pz_sV f2 a0 2 2 (.int ((-1) : Int32))).bind fun f3 =>
  fX3_beginAnew_17 pz_F f3 a0 ((0 : Int32))
theorem mX3_beginAnew {l : Launch} {G : pz_G} {f : pz_H} {a0 : Nat} {p1 : Int32} {r : pz_H} (hf : fnX3_beginAnew f a0 p1 = some r) : pz_Met l G yX3_beginAnew cX3_beginAnew 3 none 0 0 0 0 [.ref a0, .int p1] f none r ∧ pz_is f a0 2 = some () := by
  unfold fnX3_beginAnew at hf
  obtain ⟨_, h0, hf⟩ := pz_bd hf
  refine ⟨pz_enter (by decide +kernel) (Nat.le_of_ble_eq_true rfl) (fun C hl hC hK hnm => ?_), h0⟩
  subst hl
  refine pz_sub (lv' := [(0, .ref a0), (1, .int p1)]) [0, 1] rfl ?_
  refine pz_aload_n hC dX3_beginAnew_0 0 rfl ?_
  refine pz_iload_n hC dX3_beginAnew_1 1 rfl ?_
  refine pz_putV hC dX3_beginAnew_2 fp_X3_40 rfl rfl hf (fun f1 hf => ?_)
  refine pz_aload_n hC dX3_beginAnew_5 0 rfl ?_
  refine pz_iconst (v := ((-1) : Int32)) hC dX3_beginAnew_6 (by decide) ?_
  refine pz_putV hC dX3_beginAnew_7 fp_X3_44 rfl rfl hf (fun f2 hf => ?_)
  refine pz_aload_n hC dX3_beginAnew_10 0 rfl ?_
  refine pz_iconst (v := ((-1) : Int32)) hC dX3_beginAnew_11 (by decide) ?_
  refine pz_putV hC dX3_beginAnew_12 fp_X3_47 rfl rfl hf (fun f3 hf => ?_)
  refine pz_iconst (v := (0 : Int32)) hC dX3_beginAnew_15 (by decide) ?_
  refine pz_istore_n hC dX3_beginAnew_16 (by decide) rfl ?_
  refine pz_sub [1, 0] rfl ?_
  exact tX3_beginAnew_17 hC hK _ _ _ _ hf
def fnX6_init (f : pz_H) (a0 : Nat) : Option pz_H :=
  some f
theorem mX6_init {l : Launch} {G : pz_G} {f : pz_H} {a0 : Nat} {r : pz_H} (hf : fnX6_init f a0 = some r) : pz_Met l G yX6_init cX6_init 1 none 1 20 0 0 [.ref a0] f none r := by
  unfold fnX6_init at hf
  refine pz_enter (by decide +kernel) (Nat.le_of_ble_eq_true rfl) (fun C hl hC hK hnm => ?_)
  subst hl
  refine pz_sub (lv' := [(0, .ref a0)]) [0] rfl ?_
  refine pz_aload_n hC dX6_init_0 0 rfl ?_
  refine pz_objInit hC hK dX6_init_1 ol_X6_1 ob_inst ob_code (by decide) (Nat.le_of_ble_eq_true rfl) ?_
  exact pz_vret hC hK dX6_init_4 hf
def fnX7_init (f : pz_H) (a0 : Nat) : Option pz_H :=
  some f
theorem mX7_init {l : Launch} {G : pz_G} {f : pz_H} {a0 : Nat} {r : pz_H} (hf : fnX7_init f a0 = some r) : pz_Met l G yX7_init cX7_init 1 none 1 20 0 0 [.ref a0] f none r := by
  unfold fnX7_init at hf
  refine pz_enter (by decide +kernel) (Nat.le_of_ble_eq_true rfl) (fun C hl hC hK hnm => ?_)
  subst hl
  refine pz_sub (lv' := [(0, .ref a0)]) [0] rfl ?_
  refine pz_aload_n hC dX7_init_0 0 rfl ?_
  refine pz_objInit hC hK dX7_init_1 ol_X7_3 ob_inst ob_code (by decide) (Nat.le_of_ble_eq_true rfl) ?_
  exact pz_vret hC hK dX7_init_4 hf
def fnX3_init (f : pz_H) (a0 : Nat) : Option pz_H :=
  (pz_sV (pz_nw f (.inr (0, 5, .inl (fun _ => 0)))) a0 2 3 (.ref f.2.2)).bind fun f1 =>
  (pz_sV (pz_nw f1 (.inr (3, 8, .inr (.inr (fun _ => none))))) a0 2 4 (.ref f1.2.2)).bind fun f2 =>
  (pz_sV (pz_nw f2 (.inr (4, 4, .inr (.inr (fun _ => none))))) a0 2 7 (.ref f2.2.2)).bind fun f3 =>
  (fnX2_init (pz_nw f3 (.inl (1, [.null, .null, .int 0]))) f3.2.2).bind fun x4 =>
  (pz_sV x4 a0 2 9 (.ref f3.2.2)).bind fun f5 =>
  (pz_gR f5 a0 2 4).bind fun v6 =>
  (fnX6_init (pz_nw f5 (.inl (5, [.int 0, .int 0, .int 0]))) f5.2.2).bind fun x7 =>
  (pz_tR x7 v6 3 5 ((0 : Int32)) f5.2.2).bind fun f8 =>
  (pz_gR f8 a0 2 4).bind fun v9 =>
  (fnX6_init (pz_nw f8 (.inl (5, [.int 0, .int 0, .int 0]))) f8.2.2).bind fun x10 =>
  (pz_tR x10 v9 3 5 ((1 : Int32)) f8.2.2).bind fun f11 =>
  (pz_gR f11 a0 2 4).bind fun v12 =>
  (fnX6_init (pz_nw f11 (.inl (5, [.int 0, .int 0, .int 0]))) f11.2.2).bind fun x13 =>
  (pz_tR x13 v12 3 5 ((2 : Int32)) f11.2.2).bind fun f14 =>
  (pz_gR f14 a0 2 4).bind fun v15 =>
  (fnX6_init (pz_nw f14 (.inl (5, [.int 0, .int 0, .int 0]))) f14.2.2).bind fun x16 =>
  (pz_tR x16 v15 3 5 ((3 : Int32)) f14.2.2).bind fun f17 =>
  (pz_gR f17 a0 2 4).bind fun v18 =>
  (fnX6_init (pz_nw f17 (.inl (5, [.int 0, .int 0, .int 0]))) f17.2.2).bind fun x19 =>
  (pz_tR x19 v18 3 5 ((4 : Int32)) f17.2.2).bind fun f20 =>
  (pz_gR f20 a0 2 4).bind fun v21 =>
  (fnX6_init (pz_nw f20 (.inl (5, [.int 0, .int 0, .int 0]))) f20.2.2).bind fun x22 =>
  (pz_tR x22 v21 3 5 ((5 : Int32)) f20.2.2).bind fun f23 =>
  (pz_gR f23 a0 2 4).bind fun v24 =>
  (fnX6_init (pz_nw f23 (.inl (5, [.int 0, .int 0, .int 0]))) f23.2.2).bind fun x25 =>
  (pz_tR x25 v24 3 5 ((6 : Int32)) f23.2.2).bind fun f26 =>
  (pz_gR f26 a0 2 4).bind fun v27 =>
  (fnX6_init (pz_nw f26 (.inl (5, [.int 0, .int 0, .int 0]))) f26.2.2).bind fun x28 =>
  (pz_tR x28 v27 3 5 ((7 : Int32)) f26.2.2).bind fun f29 =>
  (pz_gR f29 a0 2 7).bind fun v30 =>
  (fnX7_init (pz_nw f29 (.inl (6, [.int 0, .int 0, .int 0, .int 0, .int 0, .int 0, .int 0, .int 0, .int 0]))) f29.2.2).bind fun x31 =>
  (pz_tR x31 v30 4 6 ((0 : Int32)) f29.2.2).bind fun f32 =>
  (pz_gR f32 a0 2 7).bind fun v33 =>
  (fnX7_init (pz_nw f32 (.inl (6, [.int 0, .int 0, .int 0, .int 0, .int 0, .int 0, .int 0, .int 0, .int 0]))) f32.2.2).bind fun x34 =>
  (pz_tR x34 v33 4 6 ((1 : Int32)) f32.2.2).bind fun f35 =>
  (pz_gR f35 a0 2 7).bind fun v36 =>
  (fnX7_init (pz_nw f35 (.inl (6, [.int 0, .int 0, .int 0, .int 0, .int 0, .int 0, .int 0, .int 0, .int 0]))) f35.2.2).bind fun x37 =>
  (pz_tR x37 v36 4 6 ((2 : Int32)) f35.2.2).bind fun f38 =>
  (pz_gR f38 a0 2 7).bind fun v39 =>
  (fnX7_init (pz_nw f38 (.inl (6, [.int 0, .int 0, .int 0, .int 0, .int 0, .int 0, .int 0, .int 0, .int 0]))) f38.2.2).bind fun x40 =>
  (pz_tR x40 v39 4 6 ((3 : Int32)) f38.2.2).bind fun f41 =>
  (fnX3_beginAnew f41 a0 ((0 : Int32))).bind fun x42 =>
  some x42
theorem mX3_init {l : Launch} {G : pz_G} {f : pz_H} {a0 : Nat} {r : pz_H} (hf : fnX3_init f a0 = some r) : pz_Met l G yX3_init cX3_init 2 none 2 40 18 100 [.ref a0] f none r := by
  unfold fnX3_init at hf
  refine pz_enter (by decide +kernel) (Nat.le_of_ble_eq_true rfl) (fun C hl hC hK hnm => ?_)
  subst hl
  refine pz_sub (lv' := [(0, .ref a0)]) [0] rfl ?_
  refine pz_aload_n hC dX3_init_0 0 rfl ?_
  refine pz_objInit hC hK dX3_init_1 ol_X3_3 ob_inst ob_code (by decide) (Nat.le_of_ble_eq_true rfl) ?_
  refine pz_aload_n hC dX3_init_4 0 rfl ?_
  refine pz_iconst (v := (5 : Int32)) hC dX3_init_5 (by decide) ?_
  refine pz_newa (atype := .int) (ty := .int) (t := 0) (N := 5) (g := .inl (fun _ => 0)) (n' := 1) (k' := 5) hC hK dX3_init_6 (by decide) ac_0 rfl (fun G U h => (h.2 0 _ rfl).2) (fun G cA h => ⟨(5, .inl (fun _ => 0)), by rw [h]; rfl, rfl⟩) (by decide) (by decide +kernel) (by decide +kernel) rfl rfl ⟨Nat.le_of_ble_eq_true rfl, Nat.le_of_ble_eq_true rfl⟩ ?_
  refine pz_putF hC hnm dX3_init_8 fp_X3_9 (fun q h => by cases h; rfl) rfl rfl rfl hf (fun f1 hf => ?_)
  refine pz_aload_n hC dX3_init_11 0 rfl ?_
  refine pz_bipush (v := (8 : Int32)) hC dX3_init_12 (by decide) ?_
  refine pz_anew (Cn := "PartedPension$Span") (t := 3) (N := 8) (n' := 2) (k' := 13) hC hK dX3_init_14 (List.mem_of_getElem? (i := 155) (by decide +kernel)) (fun _ => rfl) ⟨by decide, by decide⟩ (by decide) (by decide +kernel) (by decide) rfl rfl ⟨Nat.le_of_ble_eq_true rfl, Nat.le_of_ble_eq_true rfl⟩ ?_
  refine pz_putF hC hnm dX3_init_17 fp_X3_17 (fun q h => by cases h; rfl) rfl rfl rfl hf (fun f2 hf => ?_)
  refine pz_aload_n hC dX3_init_20 0 rfl ?_
  refine pz_iconst (v := (4 : Int32)) hC dX3_init_21 (by decide) ?_
  refine pz_anew (Cn := "PartedPension$Spouse") (t := 4) (N := 4) (n' := 3) (k' := 17) hC hK dX3_init_22 (List.mem_of_getElem? (i := 157) (by decide +kernel)) (fun _ => rfl) ⟨by decide, by decide⟩ (by decide) (by decide +kernel) (by decide) rfl rfl ⟨Nat.le_of_ble_eq_true rfl, Nat.le_of_ble_eq_true rfl⟩ ?_
  refine pz_putF hC hnm dX3_init_25 fp_X3_23 (fun q h => by cases h; rfl) rfl rfl rfl hf (fun f3 hf => ?_)
  refine pz_aload_n hC dX3_init_28 0 rfl ?_
  refine pz_new (ci := 1) (fs := [.null, .null, .int 0]) (ty := tyX2) (T := TX2) (n' := 4) (k' := 20) hC hK dX3_init_29 rfl pz_wsX2 tyX2_ok (List.mem_of_getElem? (i := 159) (by decide +kernel)) (List.mem_of_getElem? (i := 160) (by decide +kernel)) (List.mem_of_getElem? (i := 122) (by decide +kernel)) (by decide +kernel) rfl rfl ⟨Nat.le_of_ble_eq_true rfl, Nat.le_of_ble_eq_true rfl⟩ ?_
  refine pz_dup hC dX3_init_32 rfl ?_
  refine pz_Iv (As := []) hC hK dX3_init_33 py_X2_init pi_X2_init lk_X3_29 hf (fun _ h => mX2_init h) rfl rfl (Nat.le_of_ble_eq_true rfl) ⟨by decide, by decide⟩ ⟨Nat.le_of_ble_eq_true rfl, Nat.le_of_ble_eq_true rfl⟩ (n' := 6) (k' := 40) rfl rfl (fun x4 hf => ?_)
  refine pz_putF hC hnm dX3_init_36 fp_X3_30 (fun q h => by cases h; rfl) rfl rfl rfl hf (fun f5 hf => ?_)
  refine pz_iconst (v := (0 : Int32)) hC dX3_init_39 (by decide) ?_
  refine pz_istore_n hC dX3_init_40 (by decide) rfl ?_
  refine pz_iload_n hC dX3_init_41 0 rfl ?_
  refine pz_bipush (v := (8 : Int32)) hC dX3_init_42 (by decide) ?_
  refine pz_icmp_geF hC dX3_init_44 (by decide) ?_
  refine pz_aload_n hC dX3_init_47 1 rfl ?_
  refine pz_getR hC dX3_init_48 fa_X3_17 hf (fun v6 hf => ?_)
  refine pz_iload_n hC dX3_init_51 0 rfl ?_
  refine pz_new (ci := 5) (fs := [.int 0, .int 0, .int 0]) (ty := tyX6) (T := TX6) (n' := 7) (k' := 43) hC hK dX3_init_52 rfl pz_wsX6 tyX6_ok (List.mem_of_getElem? (i := 155) (by decide +kernel)) (List.mem_of_getElem? (i := 178) (by decide +kernel)) (List.mem_of_getElem? (i := 123) (by decide +kernel)) (by decide +kernel) rfl rfl ⟨Nat.le_of_ble_eq_true rfl, Nat.le_of_ble_eq_true rfl⟩ ?_
  refine pz_dup hC dX3_init_55 rfl ?_
  refine pz_Iv (As := []) hC hK dX3_init_56 py_X6_init pi_X6_init lk_X3_34 hf (fun _ h => mX6_init h) rfl rfl (Nat.le_of_ble_eq_true rfl) ⟨by decide, by decide⟩ ⟨Nat.le_of_ble_eq_true rfl, Nat.le_of_ble_eq_true rfl⟩ (n' := 7) (k' := 43) rfl rfl (fun x7 hf => ?_)
  refine pz_aast (T := TX6) (N := 3) hC dX3_init_59 (fun _ => rfl) (by decide) rfl hf (fun f8 hf => ?_)
  refine pz_iinc (v := (1 : Int32)) hC dX3_init_60 0 rfl (by decide) (by decide) rfl ?_
  refine pz_goto hC dX3_init_63 ?_
  refine pz_iload_n hC dX3_init_41 0 rfl ?_
  refine pz_bipush (v := (8 : Int32)) hC dX3_init_42 (by decide) ?_
  refine pz_icmp_geF hC dX3_init_44 (by decide) ?_
  refine pz_aload_n hC dX3_init_47 1 rfl ?_
  refine pz_getR hC dX3_init_48 fa_X3_17 hf (fun v9 hf => ?_)
  refine pz_iload_n hC dX3_init_51 0 rfl ?_
  refine pz_new (ci := 5) (fs := [.int 0, .int 0, .int 0]) (ty := tyX6) (T := TX6) (n' := 8) (k' := 46) hC hK dX3_init_52 rfl pz_wsX6 tyX6_ok (List.mem_of_getElem? (i := 155) (by decide +kernel)) (List.mem_of_getElem? (i := 178) (by decide +kernel)) (List.mem_of_getElem? (i := 123) (by decide +kernel)) (by decide +kernel) rfl rfl ⟨Nat.le_of_ble_eq_true rfl, Nat.le_of_ble_eq_true rfl⟩ ?_
  refine pz_dup hC dX3_init_55 rfl ?_
  refine pz_Iv (As := []) hC hK dX3_init_56 py_X6_init pi_X6_init lk_X3_34 hf (fun _ h => mX6_init h) rfl rfl (Nat.le_of_ble_eq_true rfl) ⟨by decide, by decide⟩ ⟨Nat.le_of_ble_eq_true rfl, Nat.le_of_ble_eq_true rfl⟩ (n' := 8) (k' := 46) rfl rfl (fun x10 hf => ?_)
  refine pz_aast (T := TX6) (N := 3) hC dX3_init_59 (fun _ => rfl) (by decide) rfl hf (fun f11 hf => ?_)
  refine pz_iinc (v := (2 : Int32)) hC dX3_init_60 0 rfl (by decide) (by decide) rfl ?_
  refine pz_goto hC dX3_init_63 ?_
  refine pz_iload_n hC dX3_init_41 0 rfl ?_
  refine pz_bipush (v := (8 : Int32)) hC dX3_init_42 (by decide) ?_
  refine pz_icmp_geF hC dX3_init_44 (by decide) ?_
  refine pz_aload_n hC dX3_init_47 1 rfl ?_
  refine pz_getR hC dX3_init_48 fa_X3_17 hf (fun v12 hf => ?_)
  refine pz_iload_n hC dX3_init_51 0 rfl ?_
  refine pz_new (ci := 5) (fs := [.int 0, .int 0, .int 0]) (ty := tyX6) (T := TX6) (n' := 9) (k' := 49) hC hK dX3_init_52 rfl pz_wsX6 tyX6_ok (List.mem_of_getElem? (i := 155) (by decide +kernel)) (List.mem_of_getElem? (i := 178) (by decide +kernel)) (List.mem_of_getElem? (i := 123) (by decide +kernel)) (by decide +kernel) rfl rfl ⟨Nat.le_of_ble_eq_true rfl, Nat.le_of_ble_eq_true rfl⟩ ?_
  refine pz_dup hC dX3_init_55 rfl ?_
  refine pz_Iv (As := []) hC hK dX3_init_56 py_X6_init pi_X6_init lk_X3_34 hf (fun _ h => mX6_init h) rfl rfl (Nat.le_of_ble_eq_true rfl) ⟨by decide, by decide⟩ ⟨Nat.le_of_ble_eq_true rfl, Nat.le_of_ble_eq_true rfl⟩ (n' := 9) (k' := 49) rfl rfl (fun x13 hf => ?_)
  refine pz_aast (T := TX6) (N := 3) hC dX3_init_59 (fun _ => rfl) (by decide) rfl hf (fun f14 hf => ?_)
  refine pz_iinc (v := (3 : Int32)) hC dX3_init_60 0 rfl (by decide) (by decide) rfl ?_
  refine pz_goto hC dX3_init_63 ?_
  refine pz_iload_n hC dX3_init_41 0 rfl ?_
  refine pz_bipush (v := (8 : Int32)) hC dX3_init_42 (by decide) ?_
  refine pz_icmp_geF hC dX3_init_44 (by decide) ?_
  refine pz_aload_n hC dX3_init_47 1 rfl ?_
  refine pz_getR hC dX3_init_48 fa_X3_17 hf (fun v15 hf => ?_)
  refine pz_iload_n hC dX3_init_51 0 rfl ?_
  refine pz_new (ci := 5) (fs := [.int 0, .int 0, .int 0]) (ty := tyX6) (T := TX6) (n' := 10) (k' := 52) hC hK dX3_init_52 rfl pz_wsX6 tyX6_ok (List.mem_of_getElem? (i := 155) (by decide +kernel)) (List.mem_of_getElem? (i := 178) (by decide +kernel)) (List.mem_of_getElem? (i := 123) (by decide +kernel)) (by decide +kernel) rfl rfl ⟨Nat.le_of_ble_eq_true rfl, Nat.le_of_ble_eq_true rfl⟩ ?_
  refine pz_dup hC dX3_init_55 rfl ?_
  refine pz_Iv (As := []) hC hK dX3_init_56 py_X6_init pi_X6_init lk_X3_34 hf (fun _ h => mX6_init h) rfl rfl (Nat.le_of_ble_eq_true rfl) ⟨by decide, by decide⟩ ⟨Nat.le_of_ble_eq_true rfl, Nat.le_of_ble_eq_true rfl⟩ (n' := 10) (k' := 52) rfl rfl (fun x16 hf => ?_)
  refine pz_aast (T := TX6) (N := 3) hC dX3_init_59 (fun _ => rfl) (by decide) rfl hf (fun f17 hf => ?_)
  refine pz_iinc (v := (4 : Int32)) hC dX3_init_60 0 rfl (by decide) (by decide) rfl ?_
  refine pz_goto hC dX3_init_63 ?_
  refine pz_iload_n hC dX3_init_41 0 rfl ?_
  refine pz_bipush (v := (8 : Int32)) hC dX3_init_42 (by decide) ?_
  refine pz_icmp_geF hC dX3_init_44 (by decide) ?_
  refine pz_aload_n hC dX3_init_47 1 rfl ?_
  refine pz_getR hC dX3_init_48 fa_X3_17 hf (fun v18 hf => ?_)
  refine pz_iload_n hC dX3_init_51 0 rfl ?_
  refine pz_new (ci := 5) (fs := [.int 0, .int 0, .int 0]) (ty := tyX6) (T := TX6) (n' := 11) (k' := 55) hC hK dX3_init_52 rfl pz_wsX6 tyX6_ok (List.mem_of_getElem? (i := 155) (by decide +kernel)) (List.mem_of_getElem? (i := 178) (by decide +kernel)) (List.mem_of_getElem? (i := 123) (by decide +kernel)) (by decide +kernel) rfl rfl ⟨Nat.le_of_ble_eq_true rfl, Nat.le_of_ble_eq_true rfl⟩ ?_
  refine pz_dup hC dX3_init_55 rfl ?_
  refine pz_Iv (As := []) hC hK dX3_init_56 py_X6_init pi_X6_init lk_X3_34 hf (fun _ h => mX6_init h) rfl rfl (Nat.le_of_ble_eq_true rfl) ⟨by decide, by decide⟩ ⟨Nat.le_of_ble_eq_true rfl, Nat.le_of_ble_eq_true rfl⟩ (n' := 11) (k' := 55) rfl rfl (fun x19 hf => ?_)
  refine pz_aast (T := TX6) (N := 3) hC dX3_init_59 (fun _ => rfl) (by decide) rfl hf (fun f20 hf => ?_)
  refine pz_iinc (v := (5 : Int32)) hC dX3_init_60 0 rfl (by decide) (by decide) rfl ?_
  refine pz_goto hC dX3_init_63 ?_
  refine pz_iload_n hC dX3_init_41 0 rfl ?_
  refine pz_bipush (v := (8 : Int32)) hC dX3_init_42 (by decide) ?_
  refine pz_icmp_geF hC dX3_init_44 (by decide) ?_
  refine pz_aload_n hC dX3_init_47 1 rfl ?_
  refine pz_getR hC dX3_init_48 fa_X3_17 hf (fun v21 hf => ?_)
  refine pz_iload_n hC dX3_init_51 0 rfl ?_
  refine pz_new (ci := 5) (fs := [.int 0, .int 0, .int 0]) (ty := tyX6) (T := TX6) (n' := 12) (k' := 58) hC hK dX3_init_52 rfl pz_wsX6 tyX6_ok (List.mem_of_getElem? (i := 155) (by decide +kernel)) (List.mem_of_getElem? (i := 178) (by decide +kernel)) (List.mem_of_getElem? (i := 123) (by decide +kernel)) (by decide +kernel) rfl rfl ⟨Nat.le_of_ble_eq_true rfl, Nat.le_of_ble_eq_true rfl⟩ ?_
  refine pz_dup hC dX3_init_55 rfl ?_
  refine pz_Iv (As := []) hC hK dX3_init_56 py_X6_init pi_X6_init lk_X3_34 hf (fun _ h => mX6_init h) rfl rfl (Nat.le_of_ble_eq_true rfl) ⟨by decide, by decide⟩ ⟨Nat.le_of_ble_eq_true rfl, Nat.le_of_ble_eq_true rfl⟩ (n' := 12) (k' := 58) rfl rfl (fun x22 hf => ?_)
  refine pz_aast (T := TX6) (N := 3) hC dX3_init_59 (fun _ => rfl) (by decide) rfl hf (fun f23 hf => ?_)
  refine pz_iinc (v := (6 : Int32)) hC dX3_init_60 0 rfl (by decide) (by decide) rfl ?_
  refine pz_goto hC dX3_init_63 ?_
  refine pz_iload_n hC dX3_init_41 0 rfl ?_
  refine pz_bipush (v := (8 : Int32)) hC dX3_init_42 (by decide) ?_
  refine pz_icmp_geF hC dX3_init_44 (by decide) ?_
  refine pz_aload_n hC dX3_init_47 1 rfl ?_
  refine pz_getR hC dX3_init_48 fa_X3_17 hf (fun v24 hf => ?_)
  refine pz_iload_n hC dX3_init_51 0 rfl ?_
  refine pz_new (ci := 5) (fs := [.int 0, .int 0, .int 0]) (ty := tyX6) (T := TX6) (n' := 13) (k' := 61) hC hK dX3_init_52 rfl pz_wsX6 tyX6_ok (List.mem_of_getElem? (i := 155) (by decide +kernel)) (List.mem_of_getElem? (i := 178) (by decide +kernel)) (List.mem_of_getElem? (i := 123) (by decide +kernel)) (by decide +kernel) rfl rfl ⟨Nat.le_of_ble_eq_true rfl, Nat.le_of_ble_eq_true rfl⟩ ?_
  refine pz_dup hC dX3_init_55 rfl ?_
  refine pz_Iv (As := []) hC hK dX3_init_56 py_X6_init pi_X6_init lk_X3_34 hf (fun _ h => mX6_init h) rfl rfl (Nat.le_of_ble_eq_true rfl) ⟨by decide, by decide⟩ ⟨Nat.le_of_ble_eq_true rfl, Nat.le_of_ble_eq_true rfl⟩ (n' := 13) (k' := 61) rfl rfl (fun x25 hf => ?_)
  refine pz_aast (T := TX6) (N := 3) hC dX3_init_59 (fun _ => rfl) (by decide) rfl hf (fun f26 hf => ?_)
  refine pz_iinc (v := (7 : Int32)) hC dX3_init_60 0 rfl (by decide) (by decide) rfl ?_
  refine pz_goto hC dX3_init_63 ?_
  refine pz_iload_n hC dX3_init_41 0 rfl ?_
  refine pz_bipush (v := (8 : Int32)) hC dX3_init_42 (by decide) ?_
  refine pz_icmp_geF hC dX3_init_44 (by decide) ?_
  refine pz_aload_n hC dX3_init_47 1 rfl ?_
  refine pz_getR hC dX3_init_48 fa_X3_17 hf (fun v27 hf => ?_)
  refine pz_iload_n hC dX3_init_51 0 rfl ?_
  refine pz_new (ci := 5) (fs := [.int 0, .int 0, .int 0]) (ty := tyX6) (T := TX6) (n' := 14) (k' := 64) hC hK dX3_init_52 rfl pz_wsX6 tyX6_ok (List.mem_of_getElem? (i := 155) (by decide +kernel)) (List.mem_of_getElem? (i := 178) (by decide +kernel)) (List.mem_of_getElem? (i := 123) (by decide +kernel)) (by decide +kernel) rfl rfl ⟨Nat.le_of_ble_eq_true rfl, Nat.le_of_ble_eq_true rfl⟩ ?_
  refine pz_dup hC dX3_init_55 rfl ?_
  refine pz_Iv (As := []) hC hK dX3_init_56 py_X6_init pi_X6_init lk_X3_34 hf (fun _ h => mX6_init h) rfl rfl (Nat.le_of_ble_eq_true rfl) ⟨by decide, by decide⟩ ⟨Nat.le_of_ble_eq_true rfl, Nat.le_of_ble_eq_true rfl⟩ (n' := 14) (k' := 64) rfl rfl (fun x28 hf => ?_)
  refine pz_aast (T := TX6) (N := 3) hC dX3_init_59 (fun _ => rfl) (by decide) rfl hf (fun f29 hf => ?_)
  refine pz_iinc (v := (8 : Int32)) hC dX3_init_60 0 rfl (by decide) (by decide) rfl ?_
  refine pz_goto hC dX3_init_63 ?_
  refine pz_iload_n hC dX3_init_41 0 rfl ?_
  refine pz_bipush (v := (8 : Int32)) hC dX3_init_42 (by decide) ?_
  refine pz_icmp_geT hC dX3_init_44 (by decide) ?_
  refine pz_iconst (v := (0 : Int32)) hC dX3_init_66 (by decide) ?_
  refine pz_istore_n hC dX3_init_67 (by decide) rfl ?_
  refine pz_iload_n hC dX3_init_68 0 rfl ?_
  refine pz_iconst (v := (4 : Int32)) hC dX3_init_69 (by decide) ?_
  refine pz_icmp_geF hC dX3_init_70 (by decide) ?_
  refine pz_aload_n hC dX3_init_73 1 rfl ?_
  refine pz_getR hC dX3_init_74 fa_X3_23 hf (fun v30 hf => ?_)
  refine pz_iload_n hC dX3_init_77 0 rfl ?_
  refine pz_new (ci := 6) (fs := [.int 0, .int 0, .int 0, .int 0, .int 0, .int 0, .int 0, .int 0, .int 0]) (ty := tyX7) (T := TX7) (n' := 15) (k' := 73) hC hK dX3_init_78 rfl pz_wsX7 tyX7_ok (List.mem_of_getElem? (i := 157) (by decide +kernel)) (List.mem_of_getElem? (i := 201) (by decide +kernel)) (List.mem_of_getElem? (i := 124) (by decide +kernel)) (by decide +kernel) rfl rfl ⟨Nat.le_of_ble_eq_true rfl, Nat.le_of_ble_eq_true rfl⟩ ?_
  refine pz_dup hC dX3_init_81 rfl ?_
  refine pz_Iv (As := []) hC hK dX3_init_82 py_X7_init pi_X7_init lk_X3_35 hf (fun _ h => mX7_init h) rfl rfl (Nat.le_of_ble_eq_true rfl) ⟨by decide, by decide⟩ ⟨Nat.le_of_ble_eq_true rfl, Nat.le_of_ble_eq_true rfl⟩ (n' := 15) (k' := 73) rfl rfl (fun x31 hf => ?_)
  refine pz_aast (T := TX7) (N := 9) hC dX3_init_85 (fun _ => rfl) (by decide) rfl hf (fun f32 hf => ?_)
  refine pz_iinc (v := (1 : Int32)) hC dX3_init_86 0 rfl (by decide) (by decide) rfl ?_
  refine pz_goto hC dX3_init_89 ?_
  refine pz_iload_n hC dX3_init_68 0 rfl ?_
  refine pz_iconst (v := (4 : Int32)) hC dX3_init_69 (by decide) ?_
  refine pz_icmp_geF hC dX3_init_70 (by decide) ?_
  refine pz_aload_n hC dX3_init_73 1 rfl ?_
  refine pz_getR hC dX3_init_74 fa_X3_23 hf (fun v33 hf => ?_)
  refine pz_iload_n hC dX3_init_77 0 rfl ?_
  refine pz_new (ci := 6) (fs := [.int 0, .int 0, .int 0, .int 0, .int 0, .int 0, .int 0, .int 0, .int 0]) (ty := tyX7) (T := TX7) (n' := 16) (k' := 82) hC hK dX3_init_78 rfl pz_wsX7 tyX7_ok (List.mem_of_getElem? (i := 157) (by decide +kernel)) (List.mem_of_getElem? (i := 201) (by decide +kernel)) (List.mem_of_getElem? (i := 124) (by decide +kernel)) (by decide +kernel) rfl rfl ⟨Nat.le_of_ble_eq_true rfl, Nat.le_of_ble_eq_true rfl⟩ ?_
  refine pz_dup hC dX3_init_81 rfl ?_
  refine pz_Iv (As := []) hC hK dX3_init_82 py_X7_init pi_X7_init lk_X3_35 hf (fun _ h => mX7_init h) rfl rfl (Nat.le_of_ble_eq_true rfl) ⟨by decide, by decide⟩ ⟨Nat.le_of_ble_eq_true rfl, Nat.le_of_ble_eq_true rfl⟩ (n' := 16) (k' := 82) rfl rfl (fun x34 hf => ?_)
  refine pz_aast (T := TX7) (N := 9) hC dX3_init_85 (fun _ => rfl) (by decide) rfl hf (fun f35 hf => ?_)
  refine pz_iinc (v := (2 : Int32)) hC dX3_init_86 0 rfl (by decide) (by decide) rfl ?_
  refine pz_goto hC dX3_init_89 ?_
  refine pz_iload_n hC dX3_init_68 0 rfl ?_
  refine pz_iconst (v := (4 : Int32)) hC dX3_init_69 (by decide) ?_
  refine pz_icmp_geF hC dX3_init_70 (by decide) ?_
  refine pz_aload_n hC dX3_init_73 1 rfl ?_
  refine pz_getR hC dX3_init_74 fa_X3_23 hf (fun v36 hf => ?_)
  refine pz_iload_n hC dX3_init_77 0 rfl ?_
  refine pz_new (ci := 6) (fs := [.int 0, .int 0, .int 0, .int 0, .int 0, .int 0, .int 0, .int 0, .int 0]) (ty := tyX7) (T := TX7) (n' := 17) (k' := 91) hC hK dX3_init_78 rfl pz_wsX7 tyX7_ok (List.mem_of_getElem? (i := 157) (by decide +kernel)) (List.mem_of_getElem? (i := 201) (by decide +kernel)) (List.mem_of_getElem? (i := 124) (by decide +kernel)) (by decide +kernel) rfl rfl ⟨Nat.le_of_ble_eq_true rfl, Nat.le_of_ble_eq_true rfl⟩ ?_
  refine pz_dup hC dX3_init_81 rfl ?_
  refine pz_Iv (As := []) hC hK dX3_init_82 py_X7_init pi_X7_init lk_X3_35 hf (fun _ h => mX7_init h) rfl rfl (Nat.le_of_ble_eq_true rfl) ⟨by decide, by decide⟩ ⟨Nat.le_of_ble_eq_true rfl, Nat.le_of_ble_eq_true rfl⟩ (n' := 17) (k' := 91) rfl rfl (fun x37 hf => ?_)
  refine pz_aast (T := TX7) (N := 9) hC dX3_init_85 (fun _ => rfl) (by decide) rfl hf (fun f38 hf => ?_)
  refine pz_iinc (v := (3 : Int32)) hC dX3_init_86 0 rfl (by decide) (by decide) rfl ?_
  refine pz_goto hC dX3_init_89 ?_
  refine pz_iload_n hC dX3_init_68 0 rfl ?_
  refine pz_iconst (v := (4 : Int32)) hC dX3_init_69 (by decide) ?_
  refine pz_icmp_geF hC dX3_init_70 (by decide) ?_
  refine pz_aload_n hC dX3_init_73 1 rfl ?_
  refine pz_getR hC dX3_init_74 fa_X3_23 hf (fun v39 hf => ?_)
  refine pz_iload_n hC dX3_init_77 0 rfl ?_
  refine pz_new (ci := 6) (fs := [.int 0, .int 0, .int 0, .int 0, .int 0, .int 0, .int 0, .int 0, .int 0]) (ty := tyX7) (T := TX7) (n' := 18) (k' := 100) hC hK dX3_init_78 rfl pz_wsX7 tyX7_ok (List.mem_of_getElem? (i := 157) (by decide +kernel)) (List.mem_of_getElem? (i := 201) (by decide +kernel)) (List.mem_of_getElem? (i := 124) (by decide +kernel)) (by decide +kernel) rfl rfl ⟨Nat.le_of_ble_eq_true rfl, Nat.le_of_ble_eq_true rfl⟩ ?_
  refine pz_dup hC dX3_init_81 rfl ?_
  refine pz_Iv (As := []) hC hK dX3_init_82 py_X7_init pi_X7_init lk_X3_35 hf (fun _ h => mX7_init h) rfl rfl (Nat.le_of_ble_eq_true rfl) ⟨by decide, by decide⟩ ⟨Nat.le_of_ble_eq_true rfl, Nat.le_of_ble_eq_true rfl⟩ (n' := 18) (k' := 100) rfl rfl (fun x40 hf => ?_)
  refine pz_aast (T := TX7) (N := 9) hC dX3_init_85 (fun _ => rfl) (by decide) rfl hf (fun f41 hf => ?_)
  refine pz_iinc (v := (4 : Int32)) hC dX3_init_86 0 rfl (by decide) (by decide) rfl ?_
  refine pz_goto hC dX3_init_89 ?_
  refine pz_iload_n hC dX3_init_68 0 rfl ?_
  refine pz_iconst (v := (4 : Int32)) hC dX3_init_69 (by decide) ?_
  refine pz_icmp_geT hC dX3_init_70 (by decide) ?_
  refine pz_aload_n hC dX3_init_92 1 rfl ?_
  refine pz_iconst (v := (0 : Int32)) hC dX3_init_93 (by decide) ?_
  refine pz_Vv (As := [.int (0 : Int32)]) hC hK dX3_init_94 py_X3_beginAnew pv_X3_beginAnew lk_X3_36 hf (fun _ h => mX3_beginAnew h) rfl rfl (Nat.le_of_ble_eq_true rfl) ⟨by decide, by decide⟩ ⟨Nat.le_of_ble_eq_true rfl, Nat.le_of_ble_eq_true rfl⟩ (fun x42 hf => ?_)
  exact pz_vret hC hK dX3_init_97 hf
def fnX6_copyFrom (f : pz_H) (a0 : Nat) (p1 : Nat) : Option pz_H :=
  (pz_is f a0 5).bind fun _ =>
  (pz_gI f p1 5 0).bind fun v1 =>
  (pz_sV f a0 5 0 (.int v1)).bind fun f2 =>
  (pz_gI f2 p1 5 1).bind fun v3 =>
  (pz_sV f2 a0 5 1 (.int v3)).bind fun f4 =>
  (pz_gI f4 p1 5 2).bind fun v5 =>
  (pz_sV f4 a0 5 2 (.int v5)).bind fun f6 =>
  some f6
theorem mX6_copyFrom {l : Launch} {G : pz_G} {f : pz_H} {a0 : Nat} {p1 : Nat} {r : pz_H} (hf : fnX6_copyFrom f a0 p1 = some r) : pz_Met l G yX6_copyFrom cX6_copyFrom 2 none 0 0 0 0 [.ref a0, .ref p1] f none r ∧ pz_is f a0 5 = some () := by
  unfold fnX6_copyFrom at hf
  obtain ⟨_, h0, hf⟩ := pz_bd hf
  refine ⟨pz_enter (by decide +kernel) (Nat.le_of_ble_eq_true rfl) (fun C hl hC hK hnm => ?_), h0⟩
  subst hl
  refine pz_sub (lv' := [(0, .ref a0), (1, .ref p1)]) [0, 1] rfl ?_
  refine pz_aload_n hC dX6_copyFrom_0 0 rfl ?_
  refine pz_aload_n hC dX6_copyFrom_1 1 rfl ?_
  refine pz_getI hC dX6_copyFrom_2 fa_X6_7 hf (fun v1 hf => ?_)
  refine pz_putV hC dX6_copyFrom_5 fp_X6_7 rfl rfl hf (fun f2 hf => ?_)
  refine pz_aload_n hC dX6_copyFrom_8 0 rfl ?_
  refine pz_aload_n hC dX6_copyFrom_9 1 rfl ?_
  refine pz_getI hC dX6_copyFrom_10 fa_X6_13 hf (fun v3 hf => ?_)
  refine pz_putV hC dX6_copyFrom_13 fp_X6_13 rfl rfl hf (fun f4 hf => ?_)
  refine pz_aload_n hC dX6_copyFrom_16 0 rfl ?_
  refine pz_aload_n hC dX6_copyFrom_17 1 rfl ?_
  refine pz_getI hC dX6_copyFrom_18 fa_X6_16 hf (fun v5 hf => ?_)
  refine pz_putV hC dX6_copyFrom_21 fp_X6_16 rfl rfl hf (fun f6 hf => ?_)
  exact pz_vret hC hK dX6_copyFrom_24 hf
def fnX7_copyFrom (f : pz_H) (a0 : Nat) (p1 : Nat) : Option pz_H :=
  (pz_is f a0 6).bind fun _ =>
  (pz_gI f p1 6 0).bind fun v1 =>
  (pz_sV f a0 6 0 (.int v1)).bind fun f2 =>
  (pz_gI f2 p1 6 1).bind fun v3 =>
  (pz_sV f2 a0 6 1 (.int v3)).bind fun f4 =>
  (pz_gI f4 p1 6 2).bind fun v5 =>
  (pz_sV f4 a0 6 2 (.int v5)).bind fun f6 =>
  (pz_gI f6 p1 6 3).bind fun v7 =>
  (pz_sV f6 a0 6 3 (.int v7)).bind fun f8 =>
  (pz_gI f8 p1 6 4).bind fun v9 =>
  (pz_sV f8 a0 6 4 (.int v9)).bind fun f10 =>
  (pz_gI f10 p1 6 5).bind fun v11 =>
  (pz_sV f10 a0 6 5 (.int v11)).bind fun f12 =>
  (pz_gI f12 p1 6 6).bind fun v13 =>
  (pz_sV f12 a0 6 6 (.int v13)).bind fun f14 =>
  (pz_gI f14 p1 6 7).bind fun v15 =>
  (pz_sV f14 a0 6 7 (.int v15)).bind fun f16 =>
  (pz_gI f16 p1 6 8).bind fun v17 =>
  (pz_sV f16 a0 6 8 (.int v17)).bind fun f18 =>
  some f18
theorem mX7_copyFrom {l : Launch} {G : pz_G} {f : pz_H} {a0 : Nat} {p1 : Nat} {r : pz_H} (hf : fnX7_copyFrom f a0 p1 = some r) : pz_Met l G yX7_copyFrom cX7_copyFrom 2 none 0 0 0 0 [.ref a0, .ref p1] f none r ∧ pz_is f a0 6 = some () := by
  unfold fnX7_copyFrom at hf
  obtain ⟨_, h0, hf⟩ := pz_bd hf
  refine ⟨pz_enter (by decide +kernel) (Nat.le_of_ble_eq_true rfl) (fun C hl hC hK hnm => ?_), h0⟩
  subst hl
  refine pz_sub (lv' := [(0, .ref a0), (1, .ref p1)]) [0, 1] rfl ?_
  refine pz_aload_n hC dX7_copyFrom_0 0 rfl ?_
  refine pz_aload_n hC dX7_copyFrom_1 1 rfl ?_
  refine pz_getI hC dX7_copyFrom_2 fa_X7_9 hf (fun v1 hf => ?_)
  refine pz_putV hC dX7_copyFrom_5 fp_X7_9 rfl rfl hf (fun f2 hf => ?_)
  refine pz_aload_n hC dX7_copyFrom_8 0 rfl ?_
  refine pz_aload_n hC dX7_copyFrom_9 1 rfl ?_
  refine pz_getI hC dX7_copyFrom_10 fa_X7_15 hf (fun v3 hf => ?_)
  refine pz_putV hC dX7_copyFrom_13 fp_X7_15 rfl rfl hf (fun f4 hf => ?_)
  refine pz_aload_n hC dX7_copyFrom_16 0 rfl ?_
  refine pz_aload_n hC dX7_copyFrom_17 1 rfl ?_
  refine pz_getI hC dX7_copyFrom_18 fa_X7_18 hf (fun v5 hf => ?_)
  refine pz_putV hC dX7_copyFrom_21 fp_X7_18 rfl rfl hf (fun f6 hf => ?_)
  refine pz_aload_n hC dX7_copyFrom_24 0 rfl ?_
  refine pz_aload_n hC dX7_copyFrom_25 1 rfl ?_
  refine pz_getI hC dX7_copyFrom_26 fa_X7_21 hf (fun v7 hf => ?_)
  refine pz_putV hC dX7_copyFrom_29 fp_X7_21 rfl rfl hf (fun f8 hf => ?_)
  refine pz_aload_n hC dX7_copyFrom_32 0 rfl ?_
  refine pz_aload_n hC dX7_copyFrom_33 1 rfl ?_
  refine pz_getI hC dX7_copyFrom_34 fa_X7_24 hf (fun v9 hf => ?_)
  refine pz_putV hC dX7_copyFrom_37 fp_X7_24 rfl rfl hf (fun f10 hf => ?_)
  refine pz_aload_n hC dX7_copyFrom_40 0 rfl ?_
  refine pz_aload_n hC dX7_copyFrom_41 1 rfl ?_
  refine pz_getI hC dX7_copyFrom_42 fa_X7_27 hf (fun v11 hf => ?_)
  refine pz_putV hC dX7_copyFrom_45 fp_X7_27 rfl rfl hf (fun f12 hf => ?_)
  refine pz_aload_n hC dX7_copyFrom_48 0 rfl ?_
  refine pz_aload_n hC dX7_copyFrom_49 1 rfl ?_
  refine pz_getI hC dX7_copyFrom_50 fa_X7_30 hf (fun v13 hf => ?_)
  refine pz_putV hC dX7_copyFrom_53 fp_X7_30 rfl rfl hf (fun f14 hf => ?_)
  refine pz_aload_n hC dX7_copyFrom_56 0 rfl ?_
  refine pz_aload_n hC dX7_copyFrom_57 1 rfl ?_
  refine pz_getI hC dX7_copyFrom_58 fa_X7_33 hf (fun v15 hf => ?_)
  refine pz_putV hC dX7_copyFrom_61 fp_X7_33 rfl rfl hf (fun f16 hf => ?_)
  refine pz_aload_n hC dX7_copyFrom_64 0 rfl ?_
  refine pz_aload_n hC dX7_copyFrom_65 1 rfl ?_
  refine pz_getI hC dX7_copyFrom_66 fa_X7_36 hf (fun v17 hf => ?_)
  refine pz_putV hC dX7_copyFrom_69 fp_X7_36 rfl rfl hf (fun f18 hf => ?_)
  exact pz_vret hC hK dX7_copyFrom_72 hf
def fX3_copyFrom_106b (k106 : pz_H → Nat → Nat → Int32 → Option pz_H) (f : pz_H) (l0 : Nat) (l1 : Nat) (l2 : Int32) : Option pz_H :=
  (pz_gI f l0 2 8).bind fun v1 =>
  if v1 ≤ l2 then (pz_gR f l0 2 9).bind fun v2 =>
  (pz_gR f l1 2 9).bind fun v3 =>
  (fnX2_copyFrom f v2 v3).bind fun x4 =>
  some x4 else
  (pz_gR f l0 2 7).bind fun v5 =>
  (pz_aR f v5 4 l2).bind fun v6 =>
  (pz_gR f l1 2 7).bind fun v7 =>
  (pz_aR f v7 4 l2).bind fun v8 =>
  (fnX7_copyFrom f v6 v8).bind fun x9 =>
  k106 x9 l0 l1 ((l2 + 1))
theorem tX3_copyFrom_106b {G : pz_G} {C : pz_C} {f : pz_H} {k106 : pz_H → Nat → Nat → Int32 → Option pz_H} {l0 : Nat} {l1 : Nat} {l2 : Int32} {r : pz_H} (hC : pz_OK G C cX3_copyFrom 3 RX3) (hK : pz_K C none 1 22 0 0) (hk106 : ∀ (g : pz_H) (a0 : Nat) (a1 : Nat) (a2 : Int32), k106 g a0 a1 a2 = some r → pz_W G C 3 106 [(0, .ref a0), (1, .ref a1), (2, .int a2)] [] g 0 0 (pz_Q G C none r 0 0)) (hf : fX3_copyFrom_106b k106 f l0 l1 l2 = some r) : pz_W G C 3 106 [(0, .ref l0), (1, .ref l1), (2, .int l2)] [] f 0 0 (pz_Q G C none r 0 0) := by
  unfold fX3_copyFrom_106b at hf
  refine pz_iload_n hC dX3_copyFrom_106 2 rfl ?_
  refine pz_aload_n hC dX3_copyFrom_107 0 rfl ?_
  refine pz_getI hC dX3_copyFrom_108 fa_X3_59 hf (fun v1 hf => ?_)
  refine pz_icmp_ge hC dX3_copyFrom_111 hf (fun _ hf => ?_) (fun _ hf => ?_)
  · refine pz_aload_n hC dX3_copyFrom_135 0 rfl ?_
    refine pz_getR hC dX3_copyFrom_136 fa_X3_30 hf (fun v2 hf => ?_)
    refine pz_aload_n hC dX3_copyFrom_139 1 rfl ?_
    refine pz_getR hC dX3_copyFrom_140 fa_X3_30 hf (fun v3 hf => ?_)
    refine pz_Vv (As := [.ref v3]) hC hK dX3_copyFrom_143 py_X2_copyFrom pv_X2_copyFrom lk_X3_72 hf (fun _ h => mX2_copyFrom h) rfl rfl (Nat.le_of_ble_eq_true rfl) ⟨by decide, by decide⟩ ⟨Nat.le_of_ble_eq_true rfl, Nat.le_of_ble_eq_true rfl⟩ (fun x4 hf => ?_)
    exact pz_vret hC hK dX3_copyFrom_146 hf
  · refine pz_aload_n hC dX3_copyFrom_114 0 rfl ?_
    refine pz_getR hC dX3_copyFrom_115 fa_X3_23 hf (fun v5 hf => ?_)
    refine pz_iload_n hC dX3_copyFrom_118 2 rfl ?_
    refine pz_aald hC dX3_copyFrom_119 (fun _ => rfl) (by decide) hf (fun v6 hf => ?_)
    refine pz_aload_n hC dX3_copyFrom_120 1 rfl ?_
    refine pz_getR hC dX3_copyFrom_121 fa_X3_23 hf (fun v7 hf => ?_)
    refine pz_iload_n hC dX3_copyFrom_124 2 rfl ?_
    refine pz_aald hC dX3_copyFrom_125 (fun _ => rfl) (by decide) hf (fun v8 hf => ?_)
    refine pz_Vv (As := [.ref v8]) hC hK dX3_copyFrom_126 py_X7_copyFrom pv_X7_copyFrom lk_X3_69 hf (fun _ h => mX7_copyFrom h) rfl rfl (Nat.le_of_ble_eq_true rfl) ⟨by decide, by decide⟩ ⟨Nat.le_of_ble_eq_true rfl, Nat.le_of_ble_eq_true rfl⟩ (fun x9 hf => ?_)
    refine pz_iinc (v := (l2 + 1)) hC dX3_copyFrom_129 2 rfl rfl (by decide) rfl ?_
    refine pz_goto hC dX3_copyFrom_132 ?_
    refine pz_sub [1, 2, 0] rfl ?_
    exact hk106 _ _ _ _ hf
def fX3_copyFrom_106 : Nat → pz_H → Nat → Nat → Int32 → Option pz_H
  | 0, _, _, _, _ => none
  | n + 1, f, l0, l1, l2 => fX3_copyFrom_106b (fX3_copyFrom_106 n) f l0 l1 l2
theorem tX3_copyFrom_106 {G : pz_G} {C : pz_C} {r : pz_H} (hC : pz_OK G C cX3_copyFrom 3 RX3) (hK : pz_K C none 1 22 0 0) : ∀ (N : Nat) (f : pz_H) (l0 : Nat) (l1 : Nat) (l2 : Int32), fX3_copyFrom_106 N f l0 l1 l2 = some r → pz_W G C 3 106 [(0, .ref l0), (1, .ref l1), (2, .int l2)] [] f 0 0 (pz_Q G C none r 0 0) := by
  intro N
  induction N with
  | zero => intro f l0 l1 l2 hf; cases hf
  | succ N ih => intro f l0 l1 l2 hf; exact tX3_copyFrom_106b hC hK (fun f l0 l1 l2 hf => ih f l0 l1 l2 hf) hf
def fX3_copyFrom_67b (k67 : pz_H → Nat → Nat → Int32 → Option pz_H) (f : pz_H) (l0 : Nat) (l1 : Nat) (l2 : Int32) : Option pz_H :=
  (pz_gI f l0 2 5).bind fun v1 =>
  if v1 ≤ l2 then (pz_gI f l1 2 8).bind fun v2 =>
  (pz_sV f l0 2 8 (.int v2)).bind fun f3 =>
  fX3_copyFrom_106 pz_F f3 l0 l1 ((0 : Int32)) else
  (pz_gR f l0 2 4).bind fun v4 =>
  (pz_aR f v4 3 l2).bind fun v5 =>
  (pz_gR f l1 2 4).bind fun v6 =>
  (pz_aR f v6 3 l2).bind fun v7 =>
  (fnX6_copyFrom f v5 v7).bind fun x8 =>
  k67 x8 l0 l1 ((l2 + 1))
theorem tX3_copyFrom_67b {G : pz_G} {C : pz_C} {f : pz_H} {k67 : pz_H → Nat → Nat → Int32 → Option pz_H} {l0 : Nat} {l1 : Nat} {l2 : Int32} {r : pz_H} (hC : pz_OK G C cX3_copyFrom 3 RX3) (hK : pz_K C none 1 22 0 0) (hk67 : ∀ (g : pz_H) (a0 : Nat) (a1 : Nat) (a2 : Int32), k67 g a0 a1 a2 = some r → pz_W G C 3 67 [(0, .ref a0), (1, .ref a1), (2, .int a2)] [] g 0 0 (pz_Q G C none r 0 0)) (hf : fX3_copyFrom_67b k67 f l0 l1 l2 = some r) : pz_W G C 3 67 [(0, .ref l0), (1, .ref l1), (2, .int l2)] [] f 0 0 (pz_Q G C none r 0 0) := by
  unfold fX3_copyFrom_67b at hf
  refine pz_iload_n hC dX3_copyFrom_67 2 rfl ?_
  refine pz_aload_n hC dX3_copyFrom_68 0 rfl ?_
  refine pz_getI hC dX3_copyFrom_69 fa_X3_53 hf (fun v1 hf => ?_)
  refine pz_icmp_ge hC dX3_copyFrom_72 hf (fun _ hf => ?_) (fun _ hf => ?_)
  · refine pz_aload_n hC dX3_copyFrom_96 0 rfl ?_
    refine pz_aload_n hC dX3_copyFrom_97 1 rfl ?_
    refine pz_getI hC dX3_copyFrom_98 fa_X3_59 hf (fun v2 hf => ?_)
    refine pz_putV hC dX3_copyFrom_101 fp_X3_59 rfl rfl hf (fun f3 hf => ?_)
    refine pz_iconst (v := (0 : Int32)) hC dX3_copyFrom_104 (by decide) ?_
    refine pz_istore_n hC dX3_copyFrom_105 (by decide) rfl ?_
    refine pz_sub [1, 2, 0] rfl ?_
    exact tX3_copyFrom_106 hC hK _ _ _ _ _ hf
  · refine pz_aload_n hC dX3_copyFrom_75 0 rfl ?_
    refine pz_getR hC dX3_copyFrom_76 fa_X3_17 hf (fun v4 hf => ?_)
    refine pz_iload_n hC dX3_copyFrom_79 2 rfl ?_
    refine pz_aald hC dX3_copyFrom_80 (fun _ => rfl) (by decide) hf (fun v5 hf => ?_)
    refine pz_aload_n hC dX3_copyFrom_81 1 rfl ?_
    refine pz_getR hC dX3_copyFrom_82 fa_X3_17 hf (fun v6 hf => ?_)
    refine pz_iload_n hC dX3_copyFrom_85 2 rfl ?_
    refine pz_aald hC dX3_copyFrom_86 (fun _ => rfl) (by decide) hf (fun v7 hf => ?_)
    refine pz_Vv (As := [.ref v7]) hC hK dX3_copyFrom_87 py_X6_copyFrom pv_X6_copyFrom lk_X3_65 hf (fun _ h => mX6_copyFrom h) rfl rfl (Nat.le_of_ble_eq_true rfl) ⟨by decide, by decide⟩ ⟨Nat.le_of_ble_eq_true rfl, Nat.le_of_ble_eq_true rfl⟩ (fun x8 hf => ?_)
    refine pz_iinc (v := (l2 + 1)) hC dX3_copyFrom_90 2 rfl rfl (by decide) rfl ?_
    refine pz_goto hC dX3_copyFrom_93 ?_
    refine pz_sub [1, 2, 0] rfl ?_
    exact hk67 _ _ _ _ hf
def fX3_copyFrom_67 : Nat → pz_H → Nat → Nat → Int32 → Option pz_H
  | 0, _, _, _, _ => none
  | n + 1, f, l0, l1, l2 => fX3_copyFrom_67b (fX3_copyFrom_67 n) f l0 l1 l2
theorem tX3_copyFrom_67 {G : pz_G} {C : pz_C} {r : pz_H} (hC : pz_OK G C cX3_copyFrom 3 RX3) (hK : pz_K C none 1 22 0 0) : ∀ (N : Nat) (f : pz_H) (l0 : Nat) (l1 : Nat) (l2 : Int32), fX3_copyFrom_67 N f l0 l1 l2 = some r → pz_W G C 3 67 [(0, .ref l0), (1, .ref l1), (2, .int l2)] [] f 0 0 (pz_Q G C none r 0 0) := by
  intro N
  induction N with
  | zero => intro f l0 l1 l2 hf; cases hf
  | succ N ih => intro f l0 l1 l2 hf; exact tX3_copyFrom_67b hC hK (fun f l0 l1 l2 hf => ih f l0 l1 l2 hf) hf
def fX3_copyFrom_26b (k26 : pz_H → Nat → Nat → Int32 → Option pz_H) (f : pz_H) (l0 : Nat) (l1 : Nat) (l2 : Int32) : Option pz_H :=
  if (5 : Int32) ≤ l2 then (pz_gI f l1 2 5).bind fun v1 =>
  (pz_sV f l0 2 5 (.int v1)).bind fun f2 =>
  (pz_gI f2 l1 2 6).bind fun v3 =>
  (pz_sV f2 l0 2 6 (.int v3)).bind fun f4 =>
  fX3_copyFrom_67 pz_F f4 l0 l1 ((0 : Int32)) else
  (pz_gR f l0 2 3).bind fun v5 =>
  (pz_gR f l1 2 3).bind fun v6 =>
  (pz_aI f v6 0 l2).bind fun v7 =>
  (pz_tI f v5 0 l2 v7).bind fun f8 =>
  k26 f8 l0 l1 ((l2 + 1))
theorem tX3_copyFrom_26b {G : pz_G} {C : pz_C} {f : pz_H} {k26 : pz_H → Nat → Nat → Int32 → Option pz_H} {l0 : Nat} {l1 : Nat} {l2 : Int32} {r : pz_H} (hC : pz_OK G C cX3_copyFrom 3 RX3) (hK : pz_K C none 1 22 0 0) (hk26 : ∀ (g : pz_H) (a0 : Nat) (a1 : Nat) (a2 : Int32), k26 g a0 a1 a2 = some r → pz_W G C 3 26 [(0, .ref a0), (1, .ref a1), (2, .int a2)] [] g 0 0 (pz_Q G C none r 0 0)) (hf : fX3_copyFrom_26b k26 f l0 l1 l2 = some r) : pz_W G C 3 26 [(0, .ref l0), (1, .ref l1), (2, .int l2)] [] f 0 0 (pz_Q G C none r 0 0) := by
  unfold fX3_copyFrom_26b at hf
  refine pz_iload_n hC dX3_copyFrom_26 2 rfl ?_
  refine pz_iconst (v := (5 : Int32)) hC dX3_copyFrom_27 (by decide) ?_
  refine pz_icmp_ge hC dX3_copyFrom_28 hf (fun _ hf => ?_) (fun _ hf => ?_)
  · refine pz_aload_n hC dX3_copyFrom_49 0 rfl ?_
    refine pz_aload_n hC dX3_copyFrom_50 1 rfl ?_
    refine pz_getI hC dX3_copyFrom_51 fa_X3_53 hf (fun v1 hf => ?_)
    refine pz_putV hC dX3_copyFrom_54 fp_X3_53 rfl rfl hf (fun f2 hf => ?_)
    refine pz_aload_n hC dX3_copyFrom_57 0 rfl ?_
    refine pz_aload_n hC dX3_copyFrom_58 1 rfl ?_
    refine pz_getI hC dX3_copyFrom_59 fa_X3_56 hf (fun v3 hf => ?_)
    refine pz_putV hC dX3_copyFrom_62 fp_X3_56 rfl rfl hf (fun f4 hf => ?_)
    refine pz_iconst (v := (0 : Int32)) hC dX3_copyFrom_65 (by decide) ?_
    refine pz_istore_n hC dX3_copyFrom_66 (by decide) rfl ?_
    refine pz_sub [1, 2, 0] rfl ?_
    exact tX3_copyFrom_67 hC hK _ _ _ _ _ hf
  · refine pz_aload_n hC dX3_copyFrom_31 0 rfl ?_
    refine pz_getR hC dX3_copyFrom_32 fa_X3_9 hf (fun v5 hf => ?_)
    refine pz_iload_n hC dX3_copyFrom_35 2 rfl ?_
    refine pz_aload_n hC dX3_copyFrom_36 1 rfl ?_
    refine pz_getR hC dX3_copyFrom_37 fa_X3_9 hf (fun v6 hf => ?_)
    refine pz_iload_n hC dX3_copyFrom_40 2 rfl ?_
    refine pz_iald hC dX3_copyFrom_41 hf (fun v7 hf => ?_)
    refine pz_iast hC dX3_copyFrom_42 hf (fun f8 hf => ?_)
    refine pz_iinc (v := (l2 + 1)) hC dX3_copyFrom_43 2 rfl rfl (by decide) rfl ?_
    refine pz_goto hC dX3_copyFrom_46 ?_
    refine pz_sub [1, 2, 0] rfl ?_
    exact hk26 _ _ _ _ hf
def fX3_copyFrom_26 : Nat → pz_H → Nat → Nat → Int32 → Option pz_H
  | 0, _, _, _, _ => none
  | n + 1, f, l0, l1, l2 => fX3_copyFrom_26b (fX3_copyFrom_26 n) f l0 l1 l2
theorem tX3_copyFrom_26 {G : pz_G} {C : pz_C} {r : pz_H} (hC : pz_OK G C cX3_copyFrom 3 RX3) (hK : pz_K C none 1 22 0 0) : ∀ (N : Nat) (f : pz_H) (l0 : Nat) (l1 : Nat) (l2 : Int32), fX3_copyFrom_26 N f l0 l1 l2 = some r → pz_W G C 3 26 [(0, .ref l0), (1, .ref l1), (2, .int l2)] [] f 0 0 (pz_Q G C none r 0 0) := by
  intro N
  induction N with
  | zero => intro f l0 l1 l2 hf; cases hf
  | succ N ih => intro f l0 l1 l2 hf; exact tX3_copyFrom_26b hC hK (fun f l0 l1 l2 hf => ih f l0 l1 l2 hf) hf
def fnX3_copyFrom (f : pz_H) (a0 : Nat) (p1 : Nat) : Option pz_H :=
  (pz_is f a0 2).bind fun _ =>
  (pz_gI f p1 2 0).bind fun v1 =>
  (pz_sV f a0 2 0 (.int v1)).bind fun f2 =>
  (pz_gI f2 p1 2 1).bind fun v3 =>
  (pz_sV f2 a0 2 1 (.int v3)).bind fun f4 =>
  (pz_gI f4 p1 2 2).bind fun v5 =>
  (pz_sV f4 a0 2 2 (.int v5)).bind fun f6 =>
  fX3_copyFrom_26 pz_F f6 a0 p1 ((0 : Int32))
theorem mX3_copyFrom {l : Launch} {G : pz_G} {f : pz_H} {a0 : Nat} {p1 : Nat} {r : pz_H} (hf : fnX3_copyFrom f a0 p1 = some r) : pz_Met l G yX3_copyFrom cX3_copyFrom 3 none 1 22 0 0 [.ref a0, .ref p1] f none r ∧ pz_is f a0 2 = some () := by
  unfold fnX3_copyFrom at hf
  obtain ⟨_, h0, hf⟩ := pz_bd hf
  refine ⟨pz_enter (by decide +kernel) (Nat.le_of_ble_eq_true rfl) (fun C hl hC hK hnm => ?_), h0⟩
  subst hl
  refine pz_sub (lv' := [(0, .ref a0), (1, .ref p1)]) [0, 1] rfl ?_
  refine pz_aload_n hC dX3_copyFrom_0 0 rfl ?_
  refine pz_aload_n hC dX3_copyFrom_1 1 rfl ?_
  refine pz_getI hC dX3_copyFrom_2 fa_X3_40 hf (fun v1 hf => ?_)
  refine pz_putV hC dX3_copyFrom_5 fp_X3_40 rfl rfl hf (fun f2 hf => ?_)
  refine pz_aload_n hC dX3_copyFrom_8 0 rfl ?_
  refine pz_aload_n hC dX3_copyFrom_9 1 rfl ?_
  refine pz_getI hC dX3_copyFrom_10 fa_X3_44 hf (fun v3 hf => ?_)
  refine pz_putV hC dX3_copyFrom_13 fp_X3_44 rfl rfl hf (fun f4 hf => ?_)
  refine pz_aload_n hC dX3_copyFrom_16 0 rfl ?_
  refine pz_aload_n hC dX3_copyFrom_17 1 rfl ?_
  refine pz_getI hC dX3_copyFrom_18 fa_X3_47 hf (fun v5 hf => ?_)
  refine pz_putV hC dX3_copyFrom_21 fp_X3_47 rfl rfl hf (fun f6 hf => ?_)
  refine pz_iconst (v := (0 : Int32)) hC dX3_copyFrom_24 (by decide) ?_
  refine pz_istore_n hC dX3_copyFrom_25 (by decide) rfl ?_
  refine pz_sub [1, 2, 0] rfl ?_
  exact tX3_copyFrom_26 hC hK _ _ _ _ _ hf
def fX3_hasSpouse_17 (f : pz_H) (s0 : Int32) : Option Int32 :=
  pz_b s0
theorem tX3_hasSpouse_17 {G : pz_G} {C : pz_C} {f : pz_H} {s0 : Int32} {r : Int32} (hC : pz_OK G C cX3_hasSpouse 2 RX3) (hK : pz_K C (some .boolean) 0 0 0 0) (hf : fX3_hasSpouse_17 f s0 = some r) : pz_W G C 2 17 [] [.int s0] f 0 0 (pz_Q G C (some (.int r)) f 0 0) := by
  unfold fX3_hasSpouse_17 at hf
  exact pz_zret hC hK dX3_hasSpouse_17 hf
def fX3_hasSpouse_16 (f : pz_H) : Option Int32 :=
  fX3_hasSpouse_17 f ((0 : Int32))
theorem tX3_hasSpouse_16 {G : pz_G} {C : pz_C} {f : pz_H} {r : Int32} (hC : pz_OK G C cX3_hasSpouse 2 RX3) (hK : pz_K C (some .boolean) 0 0 0 0) (hf : fX3_hasSpouse_16 f = some r) : pz_W G C 2 16 [] [] f 0 0 (pz_Q G C (some (.int r)) f 0 0) := by
  unfold fX3_hasSpouse_16 at hf
  refine pz_iconst (v := (0 : Int32)) hC dX3_hasSpouse_16 (by decide) ?_
  exact tX3_hasSpouse_17 hC hK hf
def fnX3_hasSpouse (f : pz_H) (a0 : Nat) (p1 : Int32) : Option Int32 :=
  (pz_is f a0 2).bind fun _ =>
  if p1 < 0 then fX3_hasSpouse_16 f else
  (pz_gI f a0 2 8).bind fun v1 =>
  if v1 ≤ p1 then fX3_hasSpouse_16 f else
  fX3_hasSpouse_17 f ((1 : Int32))
theorem mX3_hasSpouse {l : Launch} {G : pz_G} {f : pz_H} {a0 : Nat} {p1 : Int32} {r : Int32} (hf : fnX3_hasSpouse f a0 p1 = some r) : pz_Met l G yX3_hasSpouse cX3_hasSpouse 2 (some .boolean) 0 0 0 0 [.ref a0, .int p1] f (some (.int r)) f ∧ pz_is f a0 2 = some () := by
  unfold fnX3_hasSpouse at hf
  obtain ⟨_, h0, hf⟩ := pz_bd hf
  refine ⟨pz_enter (by decide +kernel) (Nat.le_of_ble_eq_true rfl) (fun C hl hC hK hnm => ?_), h0⟩
  subst hl
  refine pz_sub (lv' := [(0, .ref a0), (1, .int p1)]) [0, 1] rfl ?_
  refine pz_iload_n hC dX3_hasSpouse_0 1 rfl ?_
  refine pz_if_lt hC dX3_hasSpouse_1 hf (fun _ hf => ?_) (fun _ hf => ?_)
  · refine pz_sub [] rfl ?_
    exact tX3_hasSpouse_16 hC hK hf
  · refine pz_iload_n hC dX3_hasSpouse_4 1 rfl ?_
    refine pz_aload_n hC dX3_hasSpouse_5 0 rfl ?_
    refine pz_getI hC dX3_hasSpouse_6 fa_X3_59 hf (fun v1 hf => ?_)
    refine pz_icmp_ge hC dX3_hasSpouse_9 hf (fun _ hf => ?_) (fun _ hf => ?_)
    · refine pz_sub [] rfl ?_
      exact tX3_hasSpouse_16 hC hK hf
    · refine pz_iconst (v := (1 : Int32)) hC dX3_hasSpouse_12 (by decide) ?_
      refine pz_goto hC dX3_hasSpouse_13 ?_
      refine pz_sub [] rfl ?_
      exact tX3_hasSpouse_17 hC hK hf
def fX3_serviceWithin_91 (k5 : Nat → Int32 → Int32 → Int32 → Int32 → Option Int32) (f : pz_H) (l0 : Nat) (l1 : Int32) (l2 : Int32) (l4 : Int32) (s0 : Int32) (s1 : Int32) : Option Int32 :=
  k5 l0 l1 l2 ((s1 + s0)) ((l4 + 1))
theorem tX3_serviceWithin_91 {G : pz_G} {C : pz_C} {f : pz_H} {k5 : Nat → Int32 → Int32 → Int32 → Int32 → Option Int32} {l0 : Nat} {l1 : Int32} {l2 : Int32} {l4 : Int32} {s0 : Int32} {s1 : Int32} {r : Int32} (hC : pz_OK G C cX3_serviceWithin 7 RX3) (hK : pz_K C (some .int) 0 0 0 0) (hk5 : ∀ (a0 : Nat) (a1 : Int32) (a2 : Int32) (a3 : Int32) (a4 : Int32), k5 a0 a1 a2 a3 a4 = some r → pz_W G C 7 5 [(0, .ref a0), (1, .int a1), (2, .int a2), (3, .int a3), (4, .int a4)] [] f 0 0 (pz_Q G C (some (.int r)) f 0 0)) (hf : fX3_serviceWithin_91 k5 f l0 l1 l2 l4 s0 s1 = some r) : pz_W G C 7 91 [(0, .ref l0), (1, .int l1), (2, .int l2), (4, .int l4)] [.int s0, .int s1] f 0 0 (pz_Q G C (some (.int r)) f 0 0) := by
  unfold fX3_serviceWithin_91 at hf
  refine pz_iadd hC dX3_serviceWithin_91 ?_
  refine pz_istore_n hC dX3_serviceWithin_92 (by decide) rfl ?_
  refine pz_iinc (v := (l4 + 1)) hC dX3_serviceWithin_93 4 rfl rfl (by decide) rfl ?_
  refine pz_goto hC dX3_serviceWithin_96 ?_
  refine pz_sub [2, 3, 4, 1, 0] rfl ?_
  exact hk5 _ _ _ _ _ hf
def fX3_serviceWithin_72 (k5 : Nat → Int32 → Int32 → Int32 → Int32 → Option Int32) (f : pz_H) (l0 : Nat) (l1 : Int32) (l2 : Int32) (l3 : Int32) (l4 : Int32) (l5 : Int32) (s0 : Int32) : Option Int32 :=
  if s0 ≤ l5 then fX3_serviceWithin_91 k5 f l0 l1 l2 l4 ((0 : Int32)) l3 else
  fX3_serviceWithin_91 k5 f l0 l1 l2 l4 ((s0 - l5)) l3
theorem tX3_serviceWithin_72 {G : pz_G} {C : pz_C} {f : pz_H} {k5 : Nat → Int32 → Int32 → Int32 → Int32 → Option Int32} {l0 : Nat} {l1 : Int32} {l2 : Int32} {l3 : Int32} {l4 : Int32} {l5 : Int32} {s0 : Int32} {r : Int32} (hC : pz_OK G C cX3_serviceWithin 7 RX3) (hK : pz_K C (some .int) 0 0 0 0) (hk5 : ∀ (a0 : Nat) (a1 : Int32) (a2 : Int32) (a3 : Int32) (a4 : Int32), k5 a0 a1 a2 a3 a4 = some r → pz_W G C 7 5 [(0, .ref a0), (1, .int a1), (2, .int a2), (3, .int a3), (4, .int a4)] [] f 0 0 (pz_Q G C (some (.int r)) f 0 0)) (hf : fX3_serviceWithin_72 k5 f l0 l1 l2 l3 l4 l5 s0 = some r) : pz_W G C 7 72 [(0, .ref l0), (1, .int l1), (2, .int l2), (3, .int l3), (4, .int l4), (5, .int l5)] [.int s0] f 0 0 (pz_Q G C (some (.int r)) f 0 0) := by
  unfold fX3_serviceWithin_72 at hf
  refine pz_istore hC dX3_serviceWithin_72 (by decide) rfl ?_
  refine pz_iload_n hC dX3_serviceWithin_74 4 rfl ?_
  refine pz_iload hC dX3_serviceWithin_75 0 rfl ?_
  refine pz_iload hC dX3_serviceWithin_77 6 rfl ?_
  refine pz_icmp_le hC dX3_serviceWithin_79 hf (fun _ hf => ?_) (fun _ hf => ?_)
  · refine pz_iconst (v := (0 : Int32)) hC dX3_serviceWithin_90 (by decide) ?_
    refine pz_sub [1, 2, 3, 5] rfl ?_
    exact tX3_serviceWithin_91 hC hK hk5 hf
  · refine pz_iload hC dX3_serviceWithin_82 0 rfl ?_
    refine pz_iload hC dX3_serviceWithin_84 6 rfl ?_
    refine pz_isub hC dX3_serviceWithin_86 ?_
    refine pz_goto hC dX3_serviceWithin_87 ?_
    refine pz_sub [1, 2, 3, 5] rfl ?_
    exact tX3_serviceWithin_91 hC hK hk5 hf
def fX3_serviceWithin_42 (k5 : Nat → Int32 → Int32 → Int32 → Int32 → Option Int32) (f : pz_H) (l0 : Nat) (l1 : Int32) (l2 : Int32) (l3 : Int32) (l4 : Int32) (s0 : Int32) : Option Int32 :=
  (pz_gR f l0 2 4).bind fun v1 =>
  (pz_aR f v1 3 l4).bind fun v2 =>
  (pz_gI f v2 5 1).bind fun v3 =>
  if v3 ≤ l2 then (pz_gR f l0 2 4).bind fun v4 =>
  (pz_aR f v4 3 l4).bind fun v5 =>
  (pz_gI f v5 5 1).bind fun v6 =>
  fX3_serviceWithin_72 k5 f l0 l1 l2 l3 l4 s0 v6 else
  fX3_serviceWithin_72 k5 f l0 l1 l2 l3 l4 s0 l2
theorem tX3_serviceWithin_42 {G : pz_G} {C : pz_C} {f : pz_H} {k5 : Nat → Int32 → Int32 → Int32 → Int32 → Option Int32} {l0 : Nat} {l1 : Int32} {l2 : Int32} {l3 : Int32} {l4 : Int32} {s0 : Int32} {r : Int32} (hC : pz_OK G C cX3_serviceWithin 7 RX3) (hK : pz_K C (some .int) 0 0 0 0) (hk5 : ∀ (a0 : Nat) (a1 : Int32) (a2 : Int32) (a3 : Int32) (a4 : Int32), k5 a0 a1 a2 a3 a4 = some r → pz_W G C 7 5 [(0, .ref a0), (1, .int a1), (2, .int a2), (3, .int a3), (4, .int a4)] [] f 0 0 (pz_Q G C (some (.int r)) f 0 0)) (hf : fX3_serviceWithin_42 k5 f l0 l1 l2 l3 l4 s0 = some r) : pz_W G C 7 42 [(0, .ref l0), (1, .int l1), (2, .int l2), (3, .int l3), (4, .int l4)] [.int s0] f 0 0 (pz_Q G C (some (.int r)) f 0 0) := by
  unfold fX3_serviceWithin_42 at hf
  refine pz_istore hC dX3_serviceWithin_42 (by decide) rfl ?_
  refine pz_iload_n hC dX3_serviceWithin_44 3 rfl ?_
  refine pz_aload_n hC dX3_serviceWithin_45 1 rfl ?_
  refine pz_getR hC dX3_serviceWithin_46 fa_X3_17 hf (fun v1 hf => ?_)
  refine pz_iload hC dX3_serviceWithin_49 5 rfl ?_
  refine pz_aald hC dX3_serviceWithin_51 (fun _ => rfl) (by decide) hf (fun v2 hf => ?_)
  refine pz_getI hC dX3_serviceWithin_52 fa_X3_82 hf (fun v3 hf => ?_)
  refine pz_icmp_ge hC dX3_serviceWithin_55 hf (fun _ hf => ?_) (fun _ hf => ?_)
  · refine pz_aload_n hC dX3_serviceWithin_62 1 rfl ?_
    refine pz_getR hC dX3_serviceWithin_63 fa_X3_17 hf (fun v4 hf => ?_)
    refine pz_iload hC dX3_serviceWithin_66 5 rfl ?_
    refine pz_aald hC dX3_serviceWithin_68 (fun _ => rfl) (by decide) hf (fun v5 hf => ?_)
    refine pz_getI hC dX3_serviceWithin_69 fa_X3_82 hf (fun v6 hf => ?_)
    refine pz_sub [1, 2, 3, 4, 5, 0] rfl ?_
    exact tX3_serviceWithin_72 hC hK hk5 hf
  · refine pz_iload_n hC dX3_serviceWithin_58 3 rfl ?_
    refine pz_goto hC dX3_serviceWithin_59 ?_
    refine pz_sub [1, 2, 3, 4, 5, 0] rfl ?_
    exact tX3_serviceWithin_72 hC hK hk5 hf
def fX3_serviceWithin_5b (k5 : Nat → Int32 → Int32 → Int32 → Int32 → Option Int32) (f : pz_H) (l0 : Nat) (l1 : Int32) (l2 : Int32) (l3 : Int32) (l4 : Int32) : Option Int32 :=
  (pz_gI f l0 2 5).bind fun v1 =>
  if v1 ≤ l4 then some l3 else
  (pz_gR f l0 2 4).bind fun v2 =>
  (pz_aR f v2 3 l4).bind fun v3 =>
  (pz_gI f v3 5 0).bind fun v4 =>
  if l1 ≤ v4 then (pz_gR f l0 2 4).bind fun v5 =>
  (pz_aR f v5 3 l4).bind fun v6 =>
  (pz_gI f v6 5 0).bind fun v7 =>
  fX3_serviceWithin_42 k5 f l0 l1 l2 l3 l4 v7 else
  fX3_serviceWithin_42 k5 f l0 l1 l2 l3 l4 l1
theorem tX3_serviceWithin_5b {G : pz_G} {C : pz_C} {f : pz_H} {k5 : Nat → Int32 → Int32 → Int32 → Int32 → Option Int32} {l0 : Nat} {l1 : Int32} {l2 : Int32} {l3 : Int32} {l4 : Int32} {r : Int32} (hC : pz_OK G C cX3_serviceWithin 7 RX3) (hK : pz_K C (some .int) 0 0 0 0) (hk5 : ∀ (a0 : Nat) (a1 : Int32) (a2 : Int32) (a3 : Int32) (a4 : Int32), k5 a0 a1 a2 a3 a4 = some r → pz_W G C 7 5 [(0, .ref a0), (1, .int a1), (2, .int a2), (3, .int a3), (4, .int a4)] [] f 0 0 (pz_Q G C (some (.int r)) f 0 0)) (hf : fX3_serviceWithin_5b k5 f l0 l1 l2 l3 l4 = some r) : pz_W G C 7 5 [(0, .ref l0), (1, .int l1), (2, .int l2), (3, .int l3), (4, .int l4)] [] f 0 0 (pz_Q G C (some (.int r)) f 0 0) := by
  unfold fX3_serviceWithin_5b at hf
  refine pz_iload hC dX3_serviceWithin_5 4 rfl ?_
  refine pz_aload_n hC dX3_serviceWithin_7 0 rfl ?_
  refine pz_getI hC dX3_serviceWithin_8 fa_X3_53 hf (fun v1 hf => ?_)
  refine pz_icmp_ge hC dX3_serviceWithin_11 hf (fun _ hf => ?_) (fun _ hf => ?_)
  · refine pz_iload_n hC dX3_serviceWithin_99 3 rfl ?_
    exact pz_iret hC hK dX3_serviceWithin_100 hf
  · refine pz_iload_n hC dX3_serviceWithin_14 1 rfl ?_
    refine pz_aload_n hC dX3_serviceWithin_15 0 rfl ?_
    refine pz_getR hC dX3_serviceWithin_16 fa_X3_17 hf (fun v2 hf => ?_)
    refine pz_iload hC dX3_serviceWithin_19 4 rfl ?_
    refine pz_aald hC dX3_serviceWithin_21 (fun _ => rfl) (by decide) hf (fun v3 hf => ?_)
    refine pz_getI hC dX3_serviceWithin_22 fa_X3_79 hf (fun v4 hf => ?_)
    refine pz_icmp_le hC dX3_serviceWithin_25 hf (fun _ hf => ?_) (fun _ hf => ?_)
    · refine pz_aload_n hC dX3_serviceWithin_32 0 rfl ?_
      refine pz_getR hC dX3_serviceWithin_33 fa_X3_17 hf (fun v5 hf => ?_)
      refine pz_iload hC dX3_serviceWithin_36 4 rfl ?_
      refine pz_aald hC dX3_serviceWithin_38 (fun _ => rfl) (by decide) hf (fun v6 hf => ?_)
      refine pz_getI hC dX3_serviceWithin_39 fa_X3_79 hf (fun v7 hf => ?_)
      exact tX3_serviceWithin_42 hC hK hk5 hf
    · refine pz_iload_n hC dX3_serviceWithin_28 1 rfl ?_
      refine pz_goto hC dX3_serviceWithin_29 ?_
      exact tX3_serviceWithin_42 hC hK hk5 hf
def fX3_serviceWithin_5 (f : pz_H) : Nat → Nat → Int32 → Int32 → Int32 → Int32 → Option Int32
  | 0, _, _, _, _, _ => none
  | n + 1, l0, l1, l2, l3, l4 => fX3_serviceWithin_5b (fX3_serviceWithin_5 f n) f l0 l1 l2 l3 l4
theorem tX3_serviceWithin_5 {G : pz_G} {C : pz_C} {f : pz_H} {r : Int32} (hC : pz_OK G C cX3_serviceWithin 7 RX3) (hK : pz_K C (some .int) 0 0 0 0) : ∀ (N : Nat) (l0 : Nat) (l1 : Int32) (l2 : Int32) (l3 : Int32) (l4 : Int32), fX3_serviceWithin_5 f N l0 l1 l2 l3 l4 = some r → pz_W G C 7 5 [(0, .ref l0), (1, .int l1), (2, .int l2), (3, .int l3), (4, .int l4)] [] f 0 0 (pz_Q G C (some (.int r)) f 0 0) := by
  intro N
  induction N with
  | zero => intro l0 l1 l2 l3 l4 hf; cases hf
  | succ N ih => intro l0 l1 l2 l3 l4 hf; exact tX3_serviceWithin_5b hC hK (fun l0 l1 l2 l3 l4 hf => ih l0 l1 l2 l3 l4 hf) hf
def fnX3_serviceWithin (f : pz_H) (a0 : Nat) (p1 : Int32) (p2 : Int32) : Option Int32 :=
  (pz_is f a0 2).bind fun _ =>
  fX3_serviceWithin_5 f pz_F a0 p1 p2 ((0 : Int32)) ((0 : Int32))
theorem mX3_serviceWithin {l : Launch} {G : pz_G} {f : pz_H} {a0 : Nat} {p1 : Int32} {p2 : Int32} {r : Int32} (hf : fnX3_serviceWithin f a0 p1 p2 = some r) : pz_Met l G yX3_serviceWithin cX3_serviceWithin 7 (some .int) 0 0 0 0 [.ref a0, .int p1, .int p2] f (some (.int r)) f ∧ pz_is f a0 2 = some () := by
  unfold fnX3_serviceWithin at hf
  obtain ⟨_, h0, hf⟩ := pz_bd hf
  refine ⟨pz_enter (by decide +kernel) (Nat.le_of_ble_eq_true rfl) (fun C hl hC hK hnm => ?_), h0⟩
  subst hl
  refine pz_sub (lv' := [(0, .ref a0), (1, .int p1), (2, .int p2)]) [0, 1, 2] rfl ?_
  refine pz_iconst (v := (0 : Int32)) hC dX3_serviceWithin_0 (by decide) ?_
  refine pz_istore_n hC dX3_serviceWithin_1 (by decide) rfl ?_
  refine pz_iconst (v := (0 : Int32)) hC dX3_serviceWithin_2 (by decide) ?_
  refine pz_istore hC dX3_serviceWithin_3 (by decide) rfl ?_
  refine pz_sub [2, 3, 4, 1, 0] rfl ?_
  exact tX3_serviceWithin_5 hC hK _ _ _ _ _ _ hf
def fX3_recount_54 (k14 : pz_H → Nat → Int32 → Option pz_H) (f : pz_H) (l0 : Nat) (l1 : Int32) (s0 : Int32) (s1 : Nat) : Option pz_H :=
  (pz_sV f s1 6 8 (.int s0)).bind fun f1 =>
  k14 f1 l0 ((l1 + 1))
theorem tX3_recount_54 {G : pz_G} {C : pz_C} {f : pz_H} {k14 : pz_H → Nat → Int32 → Option pz_H} {l0 : Nat} {l1 : Int32} {s0 : Int32} {s1 : Nat} {r : pz_H} (hC : pz_OK G C cX3_recount 3 RX3) (hK : pz_K C none 1 26 0 0) (hk14 : ∀ (g : pz_H) (a0 : Nat) (a1 : Int32), k14 g a0 a1 = some r → pz_W G C 3 14 [(0, .ref a0), (1, .int a1)] [] g 0 0 (pz_Q G C none r 0 0)) (hf : fX3_recount_54 k14 f l0 l1 s0 s1 = some r) : pz_W G C 3 54 [(0, .ref l0), (1, .int l1)] [.int s0, .ref s1] f 0 0 (pz_Q G C none r 0 0) := by
  unfold fX3_recount_54 at hf
  refine pz_putV hC dX3_recount_54 fp_X3_148 rfl rfl hf (fun f1 hf => ?_)
  refine pz_iinc (v := (l1 + 1)) hC dX3_recount_57 1 rfl rfl (by decide) rfl ?_
  refine pz_goto hC dX3_recount_60 ?_
  refine pz_sub [1, 0] rfl ?_
  exact hk14 _ _ _ hf
def fX3_recount_14b (k14 : pz_H → Nat → Int32 → Option pz_H) (f : pz_H) (l0 : Nat) (l1 : Int32) : Option pz_H :=
  (pz_gI f l0 2 8).bind fun v1 =>
  if v1 ≤ l1 then some f else
  (pz_gR f l0 2 7).bind fun v2 =>
  (pz_aR f v2 4 l1).bind fun v3 =>
  (pz_gI f v3 6 2).bind fun v4 =>
  if v4 = ((-1) : Int32) then fX3_recount_54 k14 f l0 l1 ((0 : Int32)) v3 else
  (pz_gI f v3 6 1).bind fun v5 =>
  (pz_gI f v3 6 2).bind fun v6 =>
  (fnX3_serviceWithin f l0 v5 v6).bind fun x7 =>
  fX3_recount_54 k14 f l0 l1 x7 v3
theorem tX3_recount_14b {G : pz_G} {C : pz_C} {f : pz_H} {k14 : pz_H → Nat → Int32 → Option pz_H} {l0 : Nat} {l1 : Int32} {r : pz_H} (hC : pz_OK G C cX3_recount 3 RX3) (hK : pz_K C none 1 26 0 0) (hk14 : ∀ (g : pz_H) (a0 : Nat) (a1 : Int32), k14 g a0 a1 = some r → pz_W G C 3 14 [(0, .ref a0), (1, .int a1)] [] g 0 0 (pz_Q G C none r 0 0)) (hf : fX3_recount_14b k14 f l0 l1 = some r) : pz_W G C 3 14 [(0, .ref l0), (1, .int l1)] [] f 0 0 (pz_Q G C none r 0 0) := by
  unfold fX3_recount_14b at hf
  refine pz_iload_n hC dX3_recount_14 1 rfl ?_
  refine pz_aload_n hC dX3_recount_15 0 rfl ?_
  refine pz_getI hC dX3_recount_16 fa_X3_59 hf (fun v1 hf => ?_)
  refine pz_icmp_ge hC dX3_recount_19 hf (fun _ hf => ?_) (fun _ hf => ?_)
  · exact pz_vret hC hK dX3_recount_63 hf
  · refine pz_aload_n hC dX3_recount_22 0 rfl ?_
    refine pz_getR hC dX3_recount_23 fa_X3_23 hf (fun v2 hf => ?_)
    refine pz_iload_n hC dX3_recount_26 1 rfl ?_
    refine pz_aald hC dX3_recount_27 (fun _ => rfl) (by decide) hf (fun v3 hf => ?_)
    refine pz_astore_n hC dX3_recount_28 (by decide) rfl ?_
    refine pz_aload_n hC dX3_recount_29 0 rfl ?_
    refine pz_aload_n hC dX3_recount_30 0 rfl ?_
    refine pz_getI hC dX3_recount_31 fa_X3_99 hf (fun v4 hf => ?_)
    refine pz_iconst (v := ((-1) : Int32)) hC dX3_recount_34 (by decide) ?_
    refine pz_icmp_ne hC dX3_recount_35 hf (fun _ hf => ?_) (fun _ hf => ?_)
    · refine pz_aload_n hC dX3_recount_42 1 rfl ?_
      refine pz_aload_n hC dX3_recount_43 0 rfl ?_
      refine pz_getI hC dX3_recount_44 fa_X3_102 hf (fun v5 hf => ?_)
      refine pz_aload_n hC dX3_recount_47 0 rfl ?_
      refine pz_getI hC dX3_recount_48 fa_X3_99 hf (fun v6 hf => ?_)
      refine pz_Vi (As := [.int v5, .int v6]) hC hK dX3_recount_51 py_X3_serviceWithin pv_X3_serviceWithin lk_X3_75 hf (fun _ h => mX3_serviceWithin h) rfl rfl (Nat.le_of_ble_eq_true rfl) ⟨by decide, by decide⟩ ⟨Nat.le_of_ble_eq_true rfl, Nat.le_of_ble_eq_true rfl⟩ (fun x7 hf => ?_)
      refine pz_sub [1, 2] rfl ?_
      exact tX3_recount_54 hC hK hk14 hf
    · refine pz_iconst (v := (0 : Int32)) hC dX3_recount_38 (by decide) ?_
      refine pz_goto hC dX3_recount_39 ?_
      refine pz_sub [1, 2] rfl ?_
      exact tX3_recount_54 hC hK hk14 hf
def fX3_recount_14 : Nat → pz_H → Nat → Int32 → Option pz_H
  | 0, _, _, _ => none
  | n + 1, f, l0, l1 => fX3_recount_14b (fX3_recount_14 n) f l0 l1
theorem tX3_recount_14 {G : pz_G} {C : pz_C} {r : pz_H} (hC : pz_OK G C cX3_recount 3 RX3) (hK : pz_K C none 1 26 0 0) : ∀ (N : Nat) (f : pz_H) (l0 : Nat) (l1 : Int32), fX3_recount_14 N f l0 l1 = some r → pz_W G C 3 14 [(0, .ref l0), (1, .int l1)] [] f 0 0 (pz_Q G C none r 0 0) := by
  intro N
  induction N with
  | zero => intro f l0 l1 hf; cases hf
  | succ N ih => intro f l0 l1 hf; exact tX3_recount_14b hC hK (fun f l0 l1 hf => ih f l0 l1 hf) hf
def fnX3_recount (f : pz_H) (a0 : Nat) : Option pz_H :=
  (pz_is f a0 2).bind fun _ =>
  (fnX3_serviceWithin f a0 ((0 : Int32)) ((1800 : Int32))).bind fun x1 =>
  (pz_sV f a0 2 6 (.int x1)).bind fun f2 =>
  fX3_recount_14 pz_F f2 a0 ((0 : Int32))
theorem mX3_recount {l : Launch} {G : pz_G} {f : pz_H} {a0 : Nat} {r : pz_H} (hf : fnX3_recount f a0 = some r) : pz_Met l G yX3_recount cX3_recount 3 none 1 26 0 0 [.ref a0] f none r ∧ pz_is f a0 2 = some () := by
  unfold fnX3_recount at hf
  obtain ⟨_, h0, hf⟩ := pz_bd hf
  refine ⟨pz_enter (by decide +kernel) (Nat.le_of_ble_eq_true rfl) (fun C hl hC hK hnm => ?_), h0⟩
  subst hl
  refine pz_sub (lv' := [(0, .ref a0)]) [0] rfl ?_
  refine pz_aload_n hC dX3_recount_0 0 rfl ?_
  refine pz_aload_n hC dX3_recount_1 0 rfl ?_
  refine pz_iconst (v := (0 : Int32)) hC dX3_recount_2 (by decide) ?_
  refine pz_sipush (v := (1800 : Int32)) hC dX3_recount_3 (by decide) ?_
  refine pz_Vi (As := [.int (0 : Int32), .int (1800 : Int32)]) hC hK dX3_recount_6 py_X3_serviceWithin pv_X3_serviceWithin lk_X3_75 hf (fun _ h => mX3_serviceWithin h) rfl rfl (Nat.le_of_ble_eq_true rfl) ⟨by decide, by decide⟩ ⟨Nat.le_of_ble_eq_true rfl, Nat.le_of_ble_eq_true rfl⟩ (fun x1 hf => ?_)
  refine pz_putV hC dX3_recount_9 fp_X3_56 rfl rfl hf (fun f2 hf => ?_)
  refine pz_iconst (v := (0 : Int32)) hC dX3_recount_12 (by decide) ?_
  refine pz_istore_n hC dX3_recount_13 (by decide) rfl ?_
  refine pz_sub [1, 0] rfl ?_
  exact tX3_recount_14 hC hK _ _ _ _ hf
def fX3_serve_22 (f : pz_H) : Option (Int32 × pz_H) :=
  (pz_b ((0 : Int32))).bind fun x => some (x, f)
theorem tX3_serve_22 {G : pz_G} {C : pz_C} {f : pz_H} {r : (Int32 × pz_H)} (hC : pz_OK G C cX3_serve 6 RX3) (hK : pz_K C (some .boolean) 2 48 0 0) (hf : fX3_serve_22 f = some r) : pz_W G C 6 22 [] [] f 0 0 (pz_Q G C (some (.int r.1)) r.2 0 0) := by
  unfold fX3_serve_22 at hf
  refine pz_iconst (v := (0 : Int32)) hC dX3_serve_22 (by decide) ?_
  exact pz_zretw hC hK dX3_serve_23 hf
def fX3_serve_49 (f : pz_H) : Option (Int32 × pz_H) :=
  (pz_b ((0 : Int32))).bind fun x => some (x, f)
theorem tX3_serve_49 {G : pz_G} {C : pz_C} {f : pz_H} {r : (Int32 × pz_H)} (hC : pz_OK G C cX3_serve 6 RX3) (hK : pz_K C (some .boolean) 2 48 0 0) (hf : fX3_serve_49 f = some r) : pz_W G C 6 49 [] [] f 0 0 (pz_Q G C (some (.int r.1)) r.2 0 0) := by
  unfold fX3_serve_49 at hf
  refine pz_iconst (v := (0 : Int32)) hC dX3_serve_49 (by decide) ?_
  exact pz_zretw hC hK dX3_serve_50 hf
def fX3_serve_111 (f : pz_H) (l0 : Nat) (l1 : Int32) (l2 : Int32) (l3 : Int32) (l4 : Nat) (l5 : Int32) : Option (Int32 × pz_H) :=
  (pz_gR f l0 2 4).bind fun v1 =>
  (pz_tR f v1 3 5 l5 l4).bind fun f2 =>
  (pz_sV f2 l4 5 0 (.int l1)).bind fun f3 =>
  (pz_sV f3 l4 5 1 (.int l2)).bind fun f4 =>
  (pz_sV f4 l4 5 2 (.int l3)).bind fun f5 =>
  (pz_gI f5 l0 2 5).bind fun v6 =>
  (pz_sV f5 l0 2 5 (.int (v6 + (1 : Int32)))).bind fun f7 =>
  (fnX3_recount f7 l0).bind fun x8 =>
  (pz_b ((1 : Int32))).bind fun x => some (x, x8)
theorem tX3_serve_111 {G : pz_G} {C : pz_C} {f : pz_H} {l0 : Nat} {l1 : Int32} {l2 : Int32} {l3 : Int32} {l4 : Nat} {l5 : Int32} {r : (Int32 × pz_H)} (hC : pz_OK G C cX3_serve 6 RX3) (hK : pz_K C (some .boolean) 2 48 0 0) (hf : fX3_serve_111 f l0 l1 l2 l3 l4 l5 = some r) : pz_W G C 6 111 [(0, .ref l0), (1, .int l1), (2, .int l2), (3, .int l3), (4, .ref l4), (5, .int l5)] [] f 0 0 (pz_Q G C (some (.int r.1)) r.2 0 0) := by
  unfold fX3_serve_111 at hf
  refine pz_aload_n hC dX3_serve_111 0 rfl ?_
  refine pz_getR hC dX3_serve_112 fa_X3_17 hf (fun v1 hf => ?_)
  refine pz_iload hC dX3_serve_115 5 rfl ?_
  refine pz_aload hC dX3_serve_117 4 rfl ?_
  refine pz_aast (T := TX6) (N := 3) hC dX3_serve_119 (fun _ => rfl) (by decide) rfl hf (fun f2 hf => ?_)
  refine pz_aload hC dX3_serve_120 4 rfl ?_
  refine pz_iload_n hC dX3_serve_122 1 rfl ?_
  refine pz_putV hC dX3_serve_123 fp_X3_79 rfl rfl hf (fun f3 hf => ?_)
  refine pz_aload hC dX3_serve_126 4 rfl ?_
  refine pz_iload_n hC dX3_serve_128 2 rfl ?_
  refine pz_putV hC dX3_serve_129 fp_X3_82 rfl rfl hf (fun f4 hf => ?_)
  refine pz_aload hC dX3_serve_132 4 rfl ?_
  refine pz_iload_n hC dX3_serve_134 3 rfl ?_
  refine pz_putV hC dX3_serve_135 fp_X3_85 rfl rfl hf (fun f5 hf => ?_)
  refine pz_aload_n hC dX3_serve_138 0 rfl ?_
  refine pz_dup hC dX3_serve_139 rfl ?_
  refine pz_getI hC dX3_serve_140 fa_X3_53 hf (fun v6 hf => ?_)
  refine pz_iconst (v := (1 : Int32)) hC dX3_serve_143 (by decide) ?_
  refine pz_iadd hC dX3_serve_144 ?_
  refine pz_putV hC dX3_serve_145 fp_X3_53 rfl rfl hf (fun f7 hf => ?_)
  refine pz_aload_n hC dX3_serve_148 0 rfl ?_
  refine pz_Vv (As := []) hC hK dX3_serve_149 py_X3_recount pv_X3_recount lk_X3_88 hf (fun _ h => mX3_recount h) rfl rfl (Nat.le_of_ble_eq_true rfl) ⟨by decide, by decide⟩ ⟨Nat.le_of_ble_eq_true rfl, Nat.le_of_ble_eq_true rfl⟩ (fun x8 hf => ?_)
  refine pz_iconst (v := (1 : Int32)) hC dX3_serve_152 (by decide) ?_
  exact pz_zretw hC hK dX3_serve_153 hf
def fX3_serve_68b (k68 : pz_H → Nat → Int32 → Int32 → Int32 → Nat → Int32 → Option (Int32 × pz_H)) (f : pz_H) (l0 : Nat) (l1 : Int32) (l2 : Int32) (l3 : Int32) (l4 : Nat) (l5 : Int32) : Option (Int32 × pz_H) :=
  if l5 ≤ 0 then fX3_serve_111 f l0 l1 l2 l3 l4 l5 else
  (pz_gR f l0 2 4).bind fun v1 =>
  (pz_aR f v1 3 ((l5 - (1 : Int32)))).bind fun v2 =>
  (pz_gI f v2 5 0).bind fun v3 =>
  if v3 ≤ l1 then fX3_serve_111 f l0 l1 l2 l3 l4 l5 else
  (pz_gR f l0 2 4).bind fun v4 =>
  (pz_gR f l0 2 4).bind fun v5 =>
  (pz_aR f v5 3 ((l5 - (1 : Int32)))).bind fun v6 =>
  (pz_tR f v4 3 5 l5 v6).bind fun f7 =>
  k68 f7 l0 l1 l2 l3 l4 ((l5 + (-1)))
theorem tX3_serve_68b {G : pz_G} {C : pz_C} {f : pz_H} {k68 : pz_H → Nat → Int32 → Int32 → Int32 → Nat → Int32 → Option (Int32 × pz_H)} {l0 : Nat} {l1 : Int32} {l2 : Int32} {l3 : Int32} {l4 : Nat} {l5 : Int32} {r : (Int32 × pz_H)} (hC : pz_OK G C cX3_serve 6 RX3) (hK : pz_K C (some .boolean) 2 48 0 0) (hk68 : ∀ (g : pz_H) (a0 : Nat) (a1 : Int32) (a2 : Int32) (a3 : Int32) (a4 : Nat) (a5 : Int32), k68 g a0 a1 a2 a3 a4 a5 = some r → pz_W G C 6 68 [(0, .ref a0), (1, .int a1), (2, .int a2), (3, .int a3), (4, .ref a4), (5, .int a5)] [] g 0 0 (pz_Q G C (some (.int r.1)) r.2 0 0)) (hf : fX3_serve_68b k68 f l0 l1 l2 l3 l4 l5 = some r) : pz_W G C 6 68 [(0, .ref l0), (1, .int l1), (2, .int l2), (3, .int l3), (4, .ref l4), (5, .int l5)] [] f 0 0 (pz_Q G C (some (.int r.1)) r.2 0 0) := by
  unfold fX3_serve_68b at hf
  refine pz_iload hC dX3_serve_68 5 rfl ?_
  refine pz_if_le hC dX3_serve_70 hf (fun _ hf => ?_) (fun _ hf => ?_)
  · exact tX3_serve_111 hC hK hf
  · refine pz_aload_n hC dX3_serve_73 0 rfl ?_
    refine pz_getR hC dX3_serve_74 fa_X3_17 hf (fun v1 hf => ?_)
    refine pz_iload hC dX3_serve_77 5 rfl ?_
    refine pz_iconst (v := (1 : Int32)) hC dX3_serve_79 (by decide) ?_
    refine pz_isub hC dX3_serve_80 ?_
    refine pz_aald hC dX3_serve_81 (fun _ => rfl) (by decide) hf (fun v2 hf => ?_)
    refine pz_getI hC dX3_serve_82 fa_X3_79 hf (fun v3 hf => ?_)
    refine pz_iload_n hC dX3_serve_85 1 rfl ?_
    refine pz_icmp_le hC dX3_serve_86 hf (fun _ hf => ?_) (fun _ hf => ?_)
    · exact tX3_serve_111 hC hK hf
    · refine pz_aload_n hC dX3_serve_89 0 rfl ?_
      refine pz_getR hC dX3_serve_90 fa_X3_17 hf (fun v4 hf => ?_)
      refine pz_iload hC dX3_serve_93 5 rfl ?_
      refine pz_aload_n hC dX3_serve_95 0 rfl ?_
      refine pz_getR hC dX3_serve_96 fa_X3_17 hf (fun v5 hf => ?_)
      refine pz_iload hC dX3_serve_99 5 rfl ?_
      refine pz_iconst (v := (1 : Int32)) hC dX3_serve_101 (by decide) ?_
      refine pz_isub hC dX3_serve_102 ?_
      refine pz_aald hC dX3_serve_103 (fun _ => rfl) (by decide) hf (fun v6 hf => ?_)
      refine pz_aast (T := TX6) (N := 3) hC dX3_serve_104 (fun _ => rfl) (by decide) rfl hf (fun f7 hf => ?_)
      refine pz_iinc (v := (l5 + (-1))) hC dX3_serve_105 5 rfl rfl (by decide) rfl ?_
      refine pz_goto hC dX3_serve_108 ?_
      refine pz_sub [1, 2, 3, 4, 5, 0] rfl ?_
      exact hk68 _ _ _ _ _ _ _ hf
def fX3_serve_68 : Nat → pz_H → Nat → Int32 → Int32 → Int32 → Nat → Int32 → Option (Int32 × pz_H)
  | 0, _, _, _, _, _, _, _ => none
  | n + 1, f, l0, l1, l2, l3, l4, l5 => fX3_serve_68b (fX3_serve_68 n) f l0 l1 l2 l3 l4 l5
theorem tX3_serve_68 {G : pz_G} {C : pz_C} {r : (Int32 × pz_H)} (hC : pz_OK G C cX3_serve 6 RX3) (hK : pz_K C (some .boolean) 2 48 0 0) : ∀ (N : Nat) (f : pz_H) (l0 : Nat) (l1 : Int32) (l2 : Int32) (l3 : Int32) (l4 : Nat) (l5 : Int32), fX3_serve_68 N f l0 l1 l2 l3 l4 l5 = some r → pz_W G C 6 68 [(0, .ref l0), (1, .int l1), (2, .int l2), (3, .int l3), (4, .ref l4), (5, .int l5)] [] f 0 0 (pz_Q G C (some (.int r.1)) r.2 0 0) := by
  intro N
  induction N with
  | zero => intro f l0 l1 l2 l3 l4 l5 hf; cases hf
  | succ N ih => intro f l0 l1 l2 l3 l4 l5 hf; exact tX3_serve_68b hC hK (fun f l0 l1 l2 l3 l4 l5 hf => ih f l0 l1 l2 l3 l4 l5 hf) hf
def fX3_serve_40 (f : pz_H) (l0 : Nat) (l1 : Int32) (l2 : Int32) (l3 : Int32) : Option (Int32 × pz_H) :=
  (fnX3_serviceWithin f l0 l1 l2).bind fun x1 =>
  if x1 ≤ 0 then (pz_gR f l0 2 4).bind fun v2 =>
  (pz_gI f l0 2 5).bind fun v3 =>
  (pz_aR f v2 3 v3).bind fun v4 =>
  (pz_gI f l0 2 5).bind fun v5 =>
  fX3_serve_68 pz_F f l0 l1 l2 l3 v4 v5 else
  fX3_serve_49 f
theorem tX3_serve_40 {G : pz_G} {C : pz_C} {f : pz_H} {l0 : Nat} {l1 : Int32} {l2 : Int32} {l3 : Int32} {r : (Int32 × pz_H)} (hC : pz_OK G C cX3_serve 6 RX3) (hK : pz_K C (some .boolean) 2 48 0 0) (hf : fX3_serve_40 f l0 l1 l2 l3 = some r) : pz_W G C 6 40 [(0, .ref l0), (1, .int l1), (2, .int l2), (3, .int l3)] [] f 0 0 (pz_Q G C (some (.int r.1)) r.2 0 0) := by
  unfold fX3_serve_40 at hf
  refine pz_aload_n hC dX3_serve_40 0 rfl ?_
  refine pz_iload_n hC dX3_serve_41 1 rfl ?_
  refine pz_iload_n hC dX3_serve_42 2 rfl ?_
  refine pz_Vi (As := [.int l1, .int l2]) hC hK dX3_serve_43 py_X3_serviceWithin pv_X3_serviceWithin lk_X3_75 hf (fun _ h => mX3_serviceWithin h) rfl rfl (Nat.le_of_ble_eq_true rfl) ⟨by decide, by decide⟩ ⟨Nat.le_of_ble_eq_true rfl, Nat.le_of_ble_eq_true rfl⟩ (fun x1 hf => ?_)
  refine pz_if_le hC dX3_serve_46 hf (fun _ hf => ?_) (fun _ hf => ?_)
  · refine pz_aload_n hC dX3_serve_51 0 rfl ?_
    refine pz_getR hC dX3_serve_52 fa_X3_17 hf (fun v2 hf => ?_)
    refine pz_aload_n hC dX3_serve_55 0 rfl ?_
    refine pz_getI hC dX3_serve_56 fa_X3_53 hf (fun v3 hf => ?_)
    refine pz_aald hC dX3_serve_59 (fun _ => rfl) (by decide) hf (fun v4 hf => ?_)
    refine pz_astore hC dX3_serve_60 (by decide) rfl ?_
    refine pz_aload_n hC dX3_serve_62 1 rfl ?_
    refine pz_getI hC dX3_serve_63 fa_X3_53 hf (fun v5 hf => ?_)
    refine pz_istore hC dX3_serve_66 (by decide) rfl ?_
    refine pz_sub [2, 3, 4, 5, 1, 0] rfl ?_
    exact tX3_serve_68 hC hK _ _ _ _ _ _ _ _ hf
  · refine pz_sub [] rfl ?_
    exact tX3_serve_49 hC hK hf
def fnX3_serve (f : pz_H) (a0 : Nat) (p1 : Int32) (p2 : Int32) (p3 : Int32) : Option (Int32 × pz_H) :=
  (pz_is f a0 2).bind fun _ =>
  (pz_gI f a0 2 5).bind fun v1 =>
  if (8 : Int32) ≤ v1 then fX3_serve_22 f else
  if p2 ≤ p1 then fX3_serve_22 f else
  (pz_gI f a0 2 0).bind fun v2 =>
  if v2 ≤ p1 then (pz_gI f a0 2 1).bind fun v3 =>
  if v3 = ((-1) : Int32) then fX3_serve_40 f a0 p1 p2 p3 else
  (pz_gI f a0 2 1).bind fun v4 =>
  if v4 < p2 then fX3_serve_49 f else
  fX3_serve_40 f a0 p1 p2 p3 else
  fX3_serve_22 f
theorem mX3_serve {l : Launch} {G : pz_G} {f : pz_H} {a0 : Nat} {p1 : Int32} {p2 : Int32} {p3 : Int32} {r : (Int32 × pz_H)} (hf : fnX3_serve f a0 p1 p2 p3 = some r) : pz_Met l G yX3_serve cX3_serve 6 (some .boolean) 2 48 0 0 [.ref a0, .int p1, .int p2, .int p3] f (some (.int r.1)) r.2 ∧ pz_is f a0 2 = some () := by
  unfold fnX3_serve at hf
  obtain ⟨_, h0, hf⟩ := pz_bd hf
  refine ⟨pz_enter (by decide +kernel) (Nat.le_of_ble_eq_true rfl) (fun C hl hC hK hnm => ?_), h0⟩
  subst hl
  refine pz_sub (lv' := [(0, .ref a0), (1, .int p1), (2, .int p2), (3, .int p3)]) [0, 1, 2, 3] rfl ?_
  refine pz_aload_n hC dX3_serve_0 0 rfl ?_
  refine pz_getI hC dX3_serve_1 fa_X3_53 hf (fun v1 hf => ?_)
  refine pz_bipush (v := (8 : Int32)) hC dX3_serve_4 (by decide) ?_
  refine pz_icmp_ge hC dX3_serve_6 hf (fun _ hf => ?_) (fun _ hf => ?_)
  · refine pz_sub [] rfl ?_
    exact tX3_serve_22 hC hK hf
  · refine pz_iload_n hC dX3_serve_9 2 rfl ?_
    refine pz_iload_n hC dX3_serve_10 1 rfl ?_
    refine pz_icmp_le hC dX3_serve_11 hf (fun _ hf => ?_) (fun _ hf => ?_)
    · refine pz_sub [] rfl ?_
      exact tX3_serve_22 hC hK hf
    · refine pz_iload_n hC dX3_serve_14 1 rfl ?_
      refine pz_aload_n hC dX3_serve_15 0 rfl ?_
      refine pz_getI hC dX3_serve_16 fa_X3_40 hf (fun v2 hf => ?_)
      refine pz_icmp_ge hC dX3_serve_19 hf (fun _ hf => ?_) (fun _ hf => ?_)
      · refine pz_aload_n hC dX3_serve_24 0 rfl ?_
        refine pz_getI hC dX3_serve_25 fa_X3_44 hf (fun v3 hf => ?_)
        refine pz_iconst (v := ((-1) : Int32)) hC dX3_serve_28 (by decide) ?_
        refine pz_icmp_eq hC dX3_serve_29 hf (fun _ hf => ?_) (fun _ hf => ?_)
        · exact tX3_serve_40 hC hK hf
        · refine pz_aload_n hC dX3_serve_32 0 rfl ?_
          refine pz_getI hC dX3_serve_33 fa_X3_44 hf (fun v4 hf => ?_)
          refine pz_iload_n hC dX3_serve_36 2 rfl ?_
          refine pz_icmp_lt hC dX3_serve_37 hf (fun _ hf => ?_) (fun _ hf => ?_)
          · refine pz_sub [] rfl ?_
            exact tX3_serve_49 hC hK hf
          · exact tX3_serve_40 hC hK hf
      · refine pz_sub [] rfl ?_
        exact tX3_serve_22 hC hK hf
def fnX7_begin (f : pz_H) (a0 : Nat) (p1 : Int32) (p2 : Int32) : Option pz_H :=
  (pz_is f a0 6).bind fun _ =>
  (pz_sV f a0 6 0 (.int p1)).bind fun f1 =>
  (pz_sV f1 a0 6 1 (.int p2)).bind fun f2 =>
  (pz_sV f2 a0 6 2 (.int ((-1) : Int32))).bind fun f3 =>
  (pz_sV f3 a0 6 3 (.int (0 : Int32))).bind fun f4 =>
  (pz_sV f4 a0 6 4 (.int (0 : Int32))).bind fun f5 =>
  (pz_sV f5 a0 6 5 (.int (0 : Int32))).bind fun f6 =>
  (pz_sV f6 a0 6 6 (.int (0 : Int32))).bind fun f7 =>
  (pz_sV f7 a0 6 7 (.int ((-1) : Int32))).bind fun f8 =>
  (pz_sV f8 a0 6 8 (.int (0 : Int32))).bind fun f9 =>
  some f9
theorem mX7_begin {l : Launch} {G : pz_G} {f : pz_H} {a0 : Nat} {p1 : Int32} {p2 : Int32} {r : pz_H} (hf : fnX7_begin f a0 p1 p2 = some r) : pz_Met l G yX7_begin cX7_begin 3 none 0 0 0 0 [.ref a0, .int p1, .int p2] f none r ∧ pz_is f a0 6 = some () := by
  unfold fnX7_begin at hf
  obtain ⟨_, h0, hf⟩ := pz_bd hf
  refine ⟨pz_enter (by decide +kernel) (Nat.le_of_ble_eq_true rfl) (fun C hl hC hK hnm => ?_), h0⟩
  subst hl
  refine pz_sub (lv' := [(0, .ref a0), (1, .int p1), (2, .int p2)]) [0, 1, 2] rfl ?_
  refine pz_aload_n hC dX7_begin_0 0 rfl ?_
  refine pz_iload_n hC dX7_begin_1 1 rfl ?_
  refine pz_putV hC dX7_begin_2 fp_X7_9 rfl rfl hf (fun f1 hf => ?_)
  refine pz_aload_n hC dX7_begin_5 0 rfl ?_
  refine pz_iload_n hC dX7_begin_6 2 rfl ?_
  refine pz_putV hC dX7_begin_7 fp_X7_15 rfl rfl hf (fun f2 hf => ?_)
  refine pz_aload_n hC dX7_begin_10 0 rfl ?_
  refine pz_iconst (v := ((-1) : Int32)) hC dX7_begin_11 (by decide) ?_
  refine pz_putV hC dX7_begin_12 fp_X7_18 rfl rfl hf (fun f3 hf => ?_)
  refine pz_aload_n hC dX7_begin_15 0 rfl ?_
  refine pz_iconst (v := (0 : Int32)) hC dX7_begin_16 (by decide) ?_
  refine pz_putV hC dX7_begin_17 fp_X7_21 rfl rfl hf (fun f4 hf => ?_)
  refine pz_aload_n hC dX7_begin_20 0 rfl ?_
  refine pz_iconst (v := (0 : Int32)) hC dX7_begin_21 (by decide) ?_
  refine pz_putV hC dX7_begin_22 fp_X7_24 rfl rfl hf (fun f5 hf => ?_)
  refine pz_aload_n hC dX7_begin_25 0 rfl ?_
  refine pz_iconst (v := (0 : Int32)) hC dX7_begin_26 (by decide) ?_
  refine pz_putV hC dX7_begin_27 fp_X7_27 rfl rfl hf (fun f6 hf => ?_)
  refine pz_aload_n hC dX7_begin_30 0 rfl ?_
  refine pz_iconst (v := (0 : Int32)) hC dX7_begin_31 (by decide) ?_
  refine pz_putV hC dX7_begin_32 fp_X7_30 rfl rfl hf (fun f7 hf => ?_)
  refine pz_aload_n hC dX7_begin_35 0 rfl ?_
  refine pz_iconst (v := ((-1) : Int32)) hC dX7_begin_36 (by decide) ?_
  refine pz_putV hC dX7_begin_37 fp_X7_33 rfl rfl hf (fun f8 hf => ?_)
  refine pz_aload_n hC dX7_begin_40 0 rfl ?_
  refine pz_iconst (v := (0 : Int32)) hC dX7_begin_41 (by decide) ?_
  refine pz_putV hC dX7_begin_42 fp_X7_36 rfl rfl hf (fun f9 hf => ?_)
  exact pz_vret hC hK dX7_begin_45 hf
def fX7_isPartedBy_21 (f : pz_H) (s0 : Int32) : Option Int32 :=
  pz_b s0
theorem tX7_isPartedBy_21 {G : pz_G} {C : pz_C} {f : pz_H} {s0 : Int32} {r : Int32} (hC : pz_OK G C cX7_isPartedBy 2 RX7) (hK : pz_K C (some .boolean) 0 0 0 0) (hf : fX7_isPartedBy_21 f s0 = some r) : pz_W G C 2 21 [] [.int s0] f 0 0 (pz_Q G C (some (.int r)) f 0 0) := by
  unfold fX7_isPartedBy_21 at hf
  exact pz_zret hC hK dX7_isPartedBy_21 hf
def fX7_isPartedBy_20 (f : pz_H) : Option Int32 :=
  fX7_isPartedBy_21 f ((0 : Int32))
theorem tX7_isPartedBy_20 {G : pz_G} {C : pz_C} {f : pz_H} {r : Int32} (hC : pz_OK G C cX7_isPartedBy 2 RX7) (hK : pz_K C (some .boolean) 0 0 0 0) (hf : fX7_isPartedBy_20 f = some r) : pz_W G C 2 20 [] [] f 0 0 (pz_Q G C (some (.int r)) f 0 0) := by
  unfold fX7_isPartedBy_20 at hf
  refine pz_iconst (v := (0 : Int32)) hC dX7_isPartedBy_20 (by decide) ?_
  exact tX7_isPartedBy_21 hC hK hf
def fnX7_isPartedBy (f : pz_H) (a0 : Nat) (p1 : Int32) : Option Int32 :=
  (pz_is f a0 6).bind fun _ =>
  (pz_gI f a0 6 2).bind fun v1 =>
  if v1 = ((-1) : Int32) then fX7_isPartedBy_20 f else
  (pz_gI f a0 6 2).bind fun v2 =>
  if p1 < v2 then fX7_isPartedBy_20 f else
  fX7_isPartedBy_21 f ((1 : Int32))
theorem mX7_isPartedBy {l : Launch} {G : pz_G} {f : pz_H} {a0 : Nat} {p1 : Int32} {r : Int32} (hf : fnX7_isPartedBy f a0 p1 = some r) : pz_Met l G yX7_isPartedBy cX7_isPartedBy 2 (some .boolean) 0 0 0 0 [.ref a0, .int p1] f (some (.int r)) f ∧ pz_is f a0 6 = some () := by
  unfold fnX7_isPartedBy at hf
  obtain ⟨_, h0, hf⟩ := pz_bd hf
  refine ⟨pz_enter (by decide +kernel) (Nat.le_of_ble_eq_true rfl) (fun C hl hC hK hnm => ?_), h0⟩
  subst hl
  refine pz_sub (lv' := [(0, .ref a0), (1, .int p1)]) [0, 1] rfl ?_
  refine pz_aload_n hC dX7_isPartedBy_0 0 rfl ?_
  refine pz_getI hC dX7_isPartedBy_1 fa_X7_18 hf (fun v1 hf => ?_)
  refine pz_iconst (v := ((-1) : Int32)) hC dX7_isPartedBy_4 (by decide) ?_
  refine pz_icmp_eq hC dX7_isPartedBy_5 hf (fun _ hf => ?_) (fun _ hf => ?_)
  · refine pz_sub [] rfl ?_
    exact tX7_isPartedBy_20 hC hK hf
  · refine pz_aload_n hC dX7_isPartedBy_8 0 rfl ?_
    refine pz_getI hC dX7_isPartedBy_9 fa_X7_18 hf (fun v2 hf => ?_)
    refine pz_iload_n hC dX7_isPartedBy_12 1 rfl ?_
    refine pz_icmp_gt hC dX7_isPartedBy_13 hf (fun _ hf => ?_) (fun _ hf => ?_)
    · refine pz_sub [] rfl ?_
      exact tX7_isPartedBy_20 hC hK hf
    · refine pz_iconst (v := (1 : Int32)) hC dX7_isPartedBy_16 (by decide) ?_
      refine pz_goto hC dX7_isPartedBy_17 ?_
      refine pz_sub [] rfl ?_
      exact tX7_isPartedBy_21 hC hK hf
def fX3_wed_21 (f : pz_H) : Option (Int32 × pz_H) :=
  (pz_b ((0 : Int32))).bind fun x => some (x, f)
theorem tX3_wed_21 {G : pz_G} {C : pz_C} {f : pz_H} {r : (Int32 × pz_H)} (hC : pz_OK G C cX3_wed 3 RX3) (hK : pz_K C (some .boolean) 1 22 0 0) (hf : fX3_wed_21 f = some r) : pz_W G C 3 21 [] [] f 0 0 (pz_Q G C (some (.int r.1)) r.2 0 0) := by
  unfold fX3_wed_21 at hf
  refine pz_iconst (v := (0 : Int32)) hC dX3_wed_21 (by decide) ?_
  exact pz_zretw hC hK dX3_wed_22 hf
def fX3_wed_50 (f : pz_H) (l0 : Nat) (l1 : Int32) (l2 : Int32) : Option (Int32 × pz_H) :=
  (pz_gR f l0 2 7).bind fun v1 =>
  (pz_gI f l0 2 8).bind fun v2 =>
  (pz_aR f v1 4 v2).bind fun v3 =>
  (fnX7_begin f v3 l1 l2).bind fun x4 =>
  (pz_gI x4 l0 2 8).bind fun v5 =>
  (pz_sV x4 l0 2 8 (.int (v5 + (1 : Int32)))).bind fun f6 =>
  (pz_b ((1 : Int32))).bind fun x => some (x, f6)
theorem tX3_wed_50 {G : pz_G} {C : pz_C} {f : pz_H} {l0 : Nat} {l1 : Int32} {l2 : Int32} {r : (Int32 × pz_H)} (hC : pz_OK G C cX3_wed 3 RX3) (hK : pz_K C (some .boolean) 1 22 0 0) (hf : fX3_wed_50 f l0 l1 l2 = some r) : pz_W G C 3 50 [(0, .ref l0), (1, .int l1), (2, .int l2)] [] f 0 0 (pz_Q G C (some (.int r.1)) r.2 0 0) := by
  unfold fX3_wed_50 at hf
  refine pz_aload_n hC dX3_wed_50 0 rfl ?_
  refine pz_getR hC dX3_wed_51 fa_X3_23 hf (fun v1 hf => ?_)
  refine pz_aload_n hC dX3_wed_54 0 rfl ?_
  refine pz_getI hC dX3_wed_55 fa_X3_59 hf (fun v2 hf => ?_)
  refine pz_aald hC dX3_wed_58 (fun _ => rfl) (by decide) hf (fun v3 hf => ?_)
  refine pz_iload_n hC dX3_wed_59 1 rfl ?_
  refine pz_iload_n hC dX3_wed_60 2 rfl ?_
  refine pz_Vv (As := [.int l1, .int l2]) hC hK dX3_wed_61 py_X7_begin pv_X7_begin lk_X3_95 hf (fun _ h => mX7_begin h) rfl rfl (Nat.le_of_ble_eq_true rfl) ⟨by decide, by decide⟩ ⟨Nat.le_of_ble_eq_true rfl, Nat.le_of_ble_eq_true rfl⟩ (fun x4 hf => ?_)
  refine pz_aload_n hC dX3_wed_64 0 rfl ?_
  refine pz_dup hC dX3_wed_65 rfl ?_
  refine pz_getI hC dX3_wed_66 fa_X3_59 hf (fun v5 hf => ?_)
  refine pz_iconst (v := (1 : Int32)) hC dX3_wed_69 (by decide) ?_
  refine pz_iadd hC dX3_wed_70 ?_
  refine pz_putV hC dX3_wed_71 fp_X3_59 rfl rfl hf (fun f6 hf => ?_)
  refine pz_iconst (v := (1 : Int32)) hC dX3_wed_74 (by decide) ?_
  exact pz_zretw hC hK dX3_wed_75 hf
def fnX3_wed (f : pz_H) (a0 : Nat) (p1 : Int32) (p2 : Int32) : Option (Int32 × pz_H) :=
  (pz_is f a0 2).bind fun _ =>
  (pz_gI f a0 2 8).bind fun v1 =>
  if (4 : Int32) ≤ v1 then fX3_wed_21 f else
  (pz_gI f a0 2 0).bind fun v2 =>
  if p2 < v2 then fX3_wed_21 f else
  if p1 ≤ p2 then (pz_gI f a0 2 8).bind fun v3 =>
  if v3 ≤ 0 then fX3_wed_50 f a0 p1 p2 else
  (pz_gR f a0 2 7).bind fun v4 =>
  (pz_gI f a0 2 8).bind fun v5 =>
  (pz_aR f v4 4 ((v5 - (1 : Int32)))).bind fun v6 =>
  (fnX7_isPartedBy f v6 p2).bind fun x7 =>
  if x7 = 0 then (pz_b ((0 : Int32))).bind fun x => some (x, f) else
  fX3_wed_50 f a0 p1 p2 else
  fX3_wed_21 f
theorem mX3_wed {l : Launch} {G : pz_G} {f : pz_H} {a0 : Nat} {p1 : Int32} {p2 : Int32} {r : (Int32 × pz_H)} (hf : fnX3_wed f a0 p1 p2 = some r) : pz_Met l G yX3_wed cX3_wed 3 (some .boolean) 1 22 0 0 [.ref a0, .int p1, .int p2] f (some (.int r.1)) r.2 ∧ pz_is f a0 2 = some () := by
  unfold fnX3_wed at hf
  obtain ⟨_, h0, hf⟩ := pz_bd hf
  refine ⟨pz_enter (by decide +kernel) (Nat.le_of_ble_eq_true rfl) (fun C hl hC hK hnm => ?_), h0⟩
  subst hl
  refine pz_sub (lv' := [(0, .ref a0), (1, .int p1), (2, .int p2)]) [0, 1, 2] rfl ?_
  refine pz_aload_n hC dX3_wed_0 0 rfl ?_
  refine pz_getI hC dX3_wed_1 fa_X3_59 hf (fun v1 hf => ?_)
  refine pz_iconst (v := (4 : Int32)) hC dX3_wed_4 (by decide) ?_
  refine pz_icmp_ge hC dX3_wed_5 hf (fun _ hf => ?_) (fun _ hf => ?_)
  · refine pz_sub [] rfl ?_
    exact tX3_wed_21 hC hK hf
  · refine pz_iload_n hC dX3_wed_8 2 rfl ?_
    refine pz_aload_n hC dX3_wed_9 0 rfl ?_
    refine pz_getI hC dX3_wed_10 fa_X3_40 hf (fun v2 hf => ?_)
    refine pz_icmp_lt hC dX3_wed_13 hf (fun _ hf => ?_) (fun _ hf => ?_)
    · refine pz_sub [] rfl ?_
      exact tX3_wed_21 hC hK hf
    · refine pz_iload_n hC dX3_wed_16 2 rfl ?_
      refine pz_iload_n hC dX3_wed_17 1 rfl ?_
      refine pz_icmp_ge hC dX3_wed_18 hf (fun _ hf => ?_) (fun _ hf => ?_)
      · refine pz_aload_n hC dX3_wed_23 0 rfl ?_
        refine pz_getI hC dX3_wed_24 fa_X3_59 hf (fun v3 hf => ?_)
        refine pz_if_le hC dX3_wed_27 hf (fun _ hf => ?_) (fun _ hf => ?_)
        · exact tX3_wed_50 hC hK hf
        · refine pz_aload_n hC dX3_wed_30 0 rfl ?_
          refine pz_getR hC dX3_wed_31 fa_X3_23 hf (fun v4 hf => ?_)
          refine pz_aload_n hC dX3_wed_34 0 rfl ?_
          refine pz_getI hC dX3_wed_35 fa_X3_59 hf (fun v5 hf => ?_)
          refine pz_iconst (v := (1 : Int32)) hC dX3_wed_38 (by decide) ?_
          refine pz_isub hC dX3_wed_39 ?_
          refine pz_aald hC dX3_wed_40 (fun _ => rfl) (by decide) hf (fun v6 hf => ?_)
          refine pz_iload_n hC dX3_wed_41 2 rfl ?_
          refine pz_Vi (As := [.int p2]) hC hK dX3_wed_42 py_X7_isPartedBy pv_X7_isPartedBy lk_X3_91 hf (fun _ h => mX7_isPartedBy h) rfl rfl (Nat.le_of_ble_eq_true rfl) ⟨by decide, by decide⟩ ⟨Nat.le_of_ble_eq_true rfl, Nat.le_of_ble_eq_true rfl⟩ (fun x7 hf => ?_)
          refine pz_if_ne hC dX3_wed_45 hf (fun _ hf => ?_) (fun _ hf => ?_)
          · exact tX3_wed_50 hC hK hf
          · refine pz_iconst (v := (0 : Int32)) hC dX3_wed_48 (by decide) ?_
            exact pz_zretw hC hK dX3_wed_49 hf
      · refine pz_sub [] rfl ?_
        exact tX3_wed_21 hC hK hf
def fX3_part_40 (f : pz_H) : Option (Int32 × pz_H) :=
  (pz_b ((0 : Int32))).bind fun x => some (x, f)
theorem tX3_part_40 {G : pz_G} {C : pz_C} {f : pz_H} {r : (Int32 × pz_H)} (hC : pz_OK G C cX3_part 6 RX3) (hK : pz_K C (some .boolean) 2 48 0 0) (hf : fX3_part_40 f = some r) : pz_W G C 6 40 [] [] f 0 0 (pz_Q G C (some (.int r.1)) r.2 0 0) := by
  unfold fX3_part_40 at hf
  refine pz_iconst (v := (0 : Int32)) hC dX3_part_40 (by decide) ?_
  exact pz_zretw hC hK dX3_part_41 hf
def fnX3_part (f : pz_H) (a0 : Nat) (p1 : Int32) (p2 : Int32) (p3 : Int32) (p4 : Int32) : Option (Int32 × pz_H) :=
  (pz_is f a0 2).bind fun _ =>
  (pz_gI f a0 2 8).bind fun v1 =>
  if v1 = 0 then (pz_b ((0 : Int32))).bind fun x => some (x, f) else
  (pz_gR f a0 2 7).bind fun v2 =>
  (pz_gI f a0 2 8).bind fun v3 =>
  (pz_aR f v2 4 ((v3 - (1 : Int32)))).bind fun v4 =>
  (pz_gI f v4 6 2).bind fun v5 =>
  if v5 = ((-1) : Int32) then (pz_gI f v4 6 1).bind fun v6 =>
  if v6 < p1 then (pz_sV f v4 6 2 (.int p1)).bind fun f7 =>
  (pz_sV f7 v4 6 3 (.int p2)).bind fun f8 =>
  (pz_sV f8 v4 6 4 (.int p3)).bind fun f9 =>
  (pz_sV f9 v4 6 5 (.int p4)).bind fun f10 =>
  (fnX3_recount f10 a0).bind fun x11 =>
  (pz_b ((1 : Int32))).bind fun x => some (x, x11) else
  fX3_part_40 f else
  fX3_part_40 f
theorem mX3_part {l : Launch} {G : pz_G} {f : pz_H} {a0 : Nat} {p1 : Int32} {p2 : Int32} {p3 : Int32} {p4 : Int32} {r : (Int32 × pz_H)} (hf : fnX3_part f a0 p1 p2 p3 p4 = some r) : pz_Met l G yX3_part cX3_part 6 (some .boolean) 2 48 0 0 [.ref a0, .int p1, .int p2, .int p3, .int p4] f (some (.int r.1)) r.2 ∧ pz_is f a0 2 = some () := by
  unfold fnX3_part at hf
  obtain ⟨_, h0, hf⟩ := pz_bd hf
  refine ⟨pz_enter (by decide +kernel) (Nat.le_of_ble_eq_true rfl) (fun C hl hC hK hnm => ?_), h0⟩
  subst hl
  refine pz_sub (lv' := [(0, .ref a0), (1, .int p1), (2, .int p2), (3, .int p3), (4, .int p4)]) [0, 1, 2, 3, 4] rfl ?_
  refine pz_aload_n hC dX3_part_0 0 rfl ?_
  refine pz_getI hC dX3_part_1 fa_X3_59 hf (fun v1 hf => ?_)
  refine pz_if_ne hC dX3_part_4 hf (fun _ hf => ?_) (fun _ hf => ?_)
  · refine pz_aload_n hC dX3_part_9 0 rfl ?_
    refine pz_getR hC dX3_part_10 fa_X3_23 hf (fun v2 hf => ?_)
    refine pz_aload_n hC dX3_part_13 0 rfl ?_
    refine pz_getI hC dX3_part_14 fa_X3_59 hf (fun v3 hf => ?_)
    refine pz_iconst (v := (1 : Int32)) hC dX3_part_17 (by decide) ?_
    refine pz_isub hC dX3_part_18 ?_
    refine pz_aald hC dX3_part_19 (fun _ => rfl) (by decide) hf (fun v4 hf => ?_)
    refine pz_astore hC dX3_part_20 (by decide) rfl ?_
    refine pz_aload hC dX3_part_22 0 rfl ?_
    refine pz_getI hC dX3_part_24 fa_X3_99 hf (fun v5 hf => ?_)
    refine pz_iconst (v := ((-1) : Int32)) hC dX3_part_27 (by decide) ?_
    refine pz_icmp_ne hC dX3_part_28 hf (fun _ hf => ?_) (fun _ hf => ?_)
    · refine pz_sub [] rfl ?_
      exact tX3_part_40 hC hK hf
    · refine pz_iload_n hC dX3_part_31 2 rfl ?_
      refine pz_aload hC dX3_part_32 0 rfl ?_
      refine pz_getI hC dX3_part_34 fa_X3_102 hf (fun v6 hf => ?_)
      refine pz_icmp_gt hC dX3_part_37 hf (fun _ hf => ?_) (fun _ hf => ?_)
      · refine pz_aload hC dX3_part_42 0 rfl ?_
        refine pz_iload_n hC dX3_part_44 2 rfl ?_
        refine pz_putV hC dX3_part_45 fp_X3_99 rfl rfl hf (fun f7 hf => ?_)
        refine pz_aload hC dX3_part_48 0 rfl ?_
        refine pz_iload_n hC dX3_part_50 3 rfl ?_
        refine pz_putV hC dX3_part_51 fp_X3_105 rfl rfl hf (fun f8 hf => ?_)
        refine pz_aload hC dX3_part_54 0 rfl ?_
        refine pz_iload_n hC dX3_part_56 4 rfl ?_
        refine pz_putV hC dX3_part_57 fp_X3_108 rfl rfl hf (fun f9 hf => ?_)
        refine pz_aload hC dX3_part_60 0 rfl ?_
        refine pz_iload hC dX3_part_62 5 rfl ?_
        refine pz_putV hC dX3_part_64 fp_X3_111 rfl rfl hf (fun f10 hf => ?_)
        refine pz_aload_n hC dX3_part_67 1 rfl ?_
        refine pz_Vv (As := []) hC hK dX3_part_68 py_X3_recount pv_X3_recount lk_X3_88 hf (fun _ h => mX3_recount h) rfl rfl (Nat.le_of_ble_eq_true rfl) ⟨by decide, by decide⟩ ⟨Nat.le_of_ble_eq_true rfl, Nat.le_of_ble_eq_true rfl⟩ (fun x11 hf => ?_)
        refine pz_iconst (v := (1 : Int32)) hC dX3_part_71 (by decide) ?_
        exact pz_zretw hC hK dX3_part_72 hf
      · refine pz_sub [] rfl ?_
        exact tX3_part_40 hC hK hf
  · refine pz_iconst (v := (0 : Int32)) hC dX3_part_7 (by decide) ?_
    exact pz_zretw hC hK dX3_part_8 hf
def fX3_lastTo_25 (f : pz_H) (s0 : Int32) : Option Int32 :=
  some s0
theorem tX3_lastTo_25 {G : pz_G} {C : pz_C} {f : pz_H} {s0 : Int32} {r : Int32} (hC : pz_OK G C cX3_lastTo 1 RX3) (hK : pz_K C (some .int) 0 0 0 0) (hf : fX3_lastTo_25 f s0 = some r) : pz_W G C 1 25 [] [.int s0] f 0 0 (pz_Q G C (some (.int r)) f 0 0) := by
  unfold fX3_lastTo_25 at hf
  exact pz_iret hC hK dX3_lastTo_25 hf
def fnX3_lastTo (f : pz_H) (a0 : Nat) : Option Int32 :=
  (pz_is f a0 2).bind fun _ =>
  (pz_gI f a0 2 5).bind fun v1 =>
  if v1 = 0 then fX3_lastTo_25 f ((0 : Int32)) else
  (pz_gR f a0 2 4).bind fun v2 =>
  (pz_gI f a0 2 5).bind fun v3 =>
  (pz_aR f v2 3 ((v3 - (1 : Int32)))).bind fun v4 =>
  (pz_gI f v4 5 1).bind fun v5 =>
  fX3_lastTo_25 f v5
theorem mX3_lastTo {l : Launch} {G : pz_G} {f : pz_H} {a0 : Nat} {r : Int32} (hf : fnX3_lastTo f a0 = some r) : pz_Met l G yX3_lastTo cX3_lastTo 1 (some .int) 0 0 0 0 [.ref a0] f (some (.int r)) f ∧ pz_is f a0 2 = some () := by
  unfold fnX3_lastTo at hf
  obtain ⟨_, h0, hf⟩ := pz_bd hf
  refine ⟨pz_enter (by decide +kernel) (Nat.le_of_ble_eq_true rfl) (fun C hl hC hK hnm => ?_), h0⟩
  subst hl
  refine pz_sub (lv' := [(0, .ref a0)]) [0] rfl ?_
  refine pz_aload_n hC dX3_lastTo_0 0 rfl ?_
  refine pz_getI hC dX3_lastTo_1 fa_X3_53 hf (fun v1 hf => ?_)
  refine pz_if_ne hC dX3_lastTo_4 hf (fun _ hf => ?_) (fun _ hf => ?_)
  · refine pz_aload_n hC dX3_lastTo_11 0 rfl ?_
    refine pz_getR hC dX3_lastTo_12 fa_X3_17 hf (fun v2 hf => ?_)
    refine pz_aload_n hC dX3_lastTo_15 0 rfl ?_
    refine pz_getI hC dX3_lastTo_16 fa_X3_53 hf (fun v3 hf => ?_)
    refine pz_iconst (v := (1 : Int32)) hC dX3_lastTo_19 (by decide) ?_
    refine pz_isub hC dX3_lastTo_20 ?_
    refine pz_aald hC dX3_lastTo_21 (fun _ => rfl) (by decide) hf (fun v4 hf => ?_)
    refine pz_getI hC dX3_lastTo_22 fa_X3_82 hf (fun v5 hf => ?_)
    refine pz_sub [] rfl ?_
    exact tX3_lastTo_25 hC hK hf
  · refine pz_iconst (v := (0 : Int32)) hC dX3_lastTo_7 (by decide) ?_
    refine pz_goto hC dX3_lastTo_8 ?_
    refine pz_sub [] rfl ?_
    exact tX3_lastTo_25 hC hK hf
def fX9_isMonth_16 (s0 : Int32) : Option Int32 :=
  pz_b s0
theorem tX9_isMonth_16 {G : pz_G} {C : pz_C} {f : pz_H} {s0 : Int32} {r : Int32} (hC : pz_OK G C cX9_isMonth 1 RX9) (hK : pz_K C (some .boolean) 0 0 0 0) (hf : fX9_isMonth_16 s0 = some r) : pz_W G C 1 16 [] [.int s0] f 0 0 (pz_Q G C (some (.int r)) f 0 0) := by
  unfold fX9_isMonth_16 at hf
  exact pz_zret hC hK dX9_isMonth_16 hf
def fX9_isMonth_15 : Option Int32 :=
  fX9_isMonth_16 ((0 : Int32))
theorem tX9_isMonth_15 {G : pz_G} {C : pz_C} {f : pz_H} {r : Int32} (hC : pz_OK G C cX9_isMonth 1 RX9) (hK : pz_K C (some .boolean) 0 0 0 0) (hf : fX9_isMonth_15 = some r) : pz_W G C 1 15 [] [] f 0 0 (pz_Q G C (some (.int r)) f 0 0) := by
  unfold fX9_isMonth_15 at hf
  refine pz_iconst (v := (0 : Int32)) hC dX9_isMonth_15 (by decide) ?_
  exact tX9_isMonth_16 hC hK hf
def fnX9_isMonth (p0 : Int32) : Option Int32 :=
  if p0 < 0 then fX9_isMonth_15 else
  if (1800 : Int32) ≤ p0 then fX9_isMonth_15 else
  fX9_isMonth_16 ((1 : Int32))
theorem mX9_isMonth {l : Launch} {G : pz_G} {f : pz_H} {p0 : Int32} {r : Int32} (hf : fnX9_isMonth p0 = some r) : pz_Met l G yX9_isMonth cX9_isMonth 1 (some .boolean) 0 0 0 0 [.int p0] f (some (.int r)) f := by
  unfold fnX9_isMonth at hf
  refine pz_enter (by decide +kernel) (Nat.le_of_ble_eq_true rfl) (fun C hl hC hK hnm => ?_)
  subst hl
  refine pz_sub (lv' := [(0, .int p0)]) [0] rfl ?_
  refine pz_iload_n hC dX9_isMonth_0 0 rfl ?_
  refine pz_if_lt hC dX9_isMonth_1 hf (fun _ hf => ?_) (fun _ hf => ?_)
  · refine pz_sub [] rfl ?_
    exact tX9_isMonth_15 hC hK hf
  · refine pz_iload_n hC dX9_isMonth_4 0 rfl ?_
    refine pz_sipush (v := (1800 : Int32)) hC dX9_isMonth_5 (by decide) ?_
    refine pz_icmp_ge hC dX9_isMonth_8 hf (fun _ hf => ?_) (fun _ hf => ?_)
    · refine pz_sub [] rfl ?_
      exact tX9_isMonth_15 hC hK hf
    · refine pz_iconst (v := (1 : Int32)) hC dX9_isMonth_11 (by decide) ?_
      refine pz_goto hC dX9_isMonth_12 ?_
      refine pz_sub [] rfl ?_
      exact tX9_isMonth_16 hC hK hf
def fX9_isTerm_17 (s0 : Int32) : Option Int32 :=
  pz_b s0
theorem tX9_isTerm_17 {G : pz_G} {C : pz_C} {f : pz_H} {s0 : Int32} {r : Int32} (hC : pz_OK G C cX9_isTerm 1 RX9) (hK : pz_K C (some .boolean) 0 0 0 0) (hf : fX9_isTerm_17 s0 = some r) : pz_W G C 1 17 [] [.int s0] f 0 0 (pz_Q G C (some (.int r)) f 0 0) := by
  unfold fX9_isTerm_17 at hf
  exact pz_zret hC hK dX9_isTerm_17 hf
def fX9_isTerm_16 : Option Int32 :=
  fX9_isTerm_17 ((0 : Int32))
theorem tX9_isTerm_16 {G : pz_G} {C : pz_C} {f : pz_H} {r : Int32} (hC : pz_OK G C cX9_isTerm 1 RX9) (hK : pz_K C (some .boolean) 0 0 0 0) (hf : fX9_isTerm_16 = some r) : pz_W G C 1 16 [] [] f 0 0 (pz_Q G C (some (.int r)) f 0 0) := by
  unfold fX9_isTerm_16 at hf
  refine pz_iconst (v := (0 : Int32)) hC dX9_isTerm_16 (by decide) ?_
  exact tX9_isTerm_17 hC hK hf
def fnX9_isTerm (p0 : Int32) : Option Int32 :=
  if p0 < (10 : Int32) then fX9_isTerm_16 else
  if (15 : Int32) ≤ p0 then fX9_isTerm_16 else
  fX9_isTerm_17 ((1 : Int32))
theorem mX9_isTerm {l : Launch} {G : pz_G} {f : pz_H} {p0 : Int32} {r : Int32} (hf : fnX9_isTerm p0 = some r) : pz_Met l G yX9_isTerm cX9_isTerm 1 (some .boolean) 0 0 0 0 [.int p0] f (some (.int r)) f := by
  unfold fnX9_isTerm at hf
  refine pz_enter (by decide +kernel) (Nat.le_of_ble_eq_true rfl) (fun C hl hC hK hnm => ?_)
  subst hl
  refine pz_sub (lv' := [(0, .int p0)]) [0] rfl ?_
  refine pz_iload_n hC dX9_isTerm_0 0 rfl ?_
  refine pz_bipush (v := (10 : Int32)) hC dX9_isTerm_1 (by decide) ?_
  refine pz_icmp_lt hC dX9_isTerm_3 hf (fun _ hf => ?_) (fun _ hf => ?_)
  · refine pz_sub [] rfl ?_
    exact tX9_isTerm_16 hC hK hf
  · refine pz_iload_n hC dX9_isTerm_6 0 rfl ?_
    refine pz_bipush (v := (15 : Int32)) hC dX9_isTerm_7 (by decide) ?_
    refine pz_icmp_ge hC dX9_isTerm_9 hf (fun _ hf => ?_) (fun _ hf => ?_)
    · refine pz_sub [] rfl ?_
      exact tX9_isTerm_16 hC hK hf
    · refine pz_iconst (v := (1 : Int32)) hC dX9_isTerm_12 (by decide) ?_
      refine pz_goto hC dX9_isTerm_13 ?_
      refine pz_sub [] rfl ?_
      exact tX9_isTerm_17 hC hK hf
def fX9_isWithin_35 (f : pz_H) (s0 : Int32) : Option Int32 :=
  pz_b s0
theorem tX9_isWithin_35 {G : pz_G} {C : pz_C} {f : pz_H} {s0 : Int32} {r : Int32} (hC : pz_OK G C cX9_isWithin 2 RX9) (hK : pz_K C (some .boolean) 0 0 0 0) (hf : fX9_isWithin_35 f s0 = some r) : pz_W G C 2 35 [] [.int s0] f 0 0 (pz_Q G C (some (.int r)) f 0 0) := by
  unfold fX9_isWithin_35 at hf
  exact pz_zret hC hK dX9_isWithin_35 hf
def fX9_isWithin_34 (f : pz_H) : Option Int32 :=
  fX9_isWithin_35 f ((0 : Int32))
theorem tX9_isWithin_34 {G : pz_G} {C : pz_C} {f : pz_H} {r : Int32} (hC : pz_OK G C cX9_isWithin 2 RX9) (hK : pz_K C (some .boolean) 0 0 0 0) (hf : fX9_isWithin_34 f = some r) : pz_W G C 2 34 [] [] f 0 0 (pz_Q G C (some (.int r)) f 0 0) := by
  unfold fX9_isWithin_34 at hf
  refine pz_iconst (v := (0 : Int32)) hC dX9_isWithin_34 (by decide) ?_
  exact tX9_isWithin_35 hC hK hf
def fnX9_isWithin (f : pz_H) (p0 : Int32) (p1 : Int32) : Option Int32 :=
  if p0 < 0 then fX9_isWithin_34 f else
  (pz_ln f ((f.2.1 2)) 10).bind fun v1 =>
  if v1 ≤ p0 then fX9_isWithin_34 f else
  (pz_aI f ((f.2.1 1)) 10 p0).bind fun v2 =>
  if p1 < v2 then fX9_isWithin_34 f else
  (pz_aI f ((f.2.1 2)) 10 p0).bind fun v3 =>
  if v3 < p1 then fX9_isWithin_34 f else
  fX9_isWithin_35 f ((1 : Int32))
theorem mX9_isWithin {l : Launch} {G : pz_G} {f : pz_H} {p0 : Int32} {p1 : Int32} {r : Int32} (hf : fnX9_isWithin f p0 p1 = some r) : pz_Met l G yX9_isWithin cX9_isWithin 2 (some .boolean) 0 0 0 0 [.int p0, .int p1] f (some (.int r)) f := by
  unfold fnX9_isWithin at hf
  refine pz_enter (by decide +kernel) (Nat.le_of_ble_eq_true rfl) (fun C hl hC hK hnm => ?_)
  subst hl
  refine pz_sub (lv' := [(0, .int p0), (1, .int p1)]) [0, 1] rfl ?_
  refine pz_iload_n hC dX9_isWithin_0 0 rfl ?_
  refine pz_if_lt hC dX9_isWithin_1 hf (fun _ hf => ?_) (fun _ hf => ?_)
  · refine pz_sub [] rfl ?_
    exact tX9_isWithin_34 hC hK hf
  · refine pz_iload_n hC dX9_isWithin_4 0 rfl ?_
    refine pz_gets (i := 2) hC dX9_isWithin_5 rfl (Or.inl sl_X9_271) ?_
    refine pz_alenS hC dX9_isWithin_8 (by decide) hf (fun v1 hf => ?_)
    refine pz_icmp_ge hC dX9_isWithin_9 hf (fun _ hf => ?_) (fun _ hf => ?_)
    · refine pz_sub [] rfl ?_
      exact tX9_isWithin_34 hC hK hf
    · refine pz_iload_n hC dX9_isWithin_12 1 rfl ?_
      refine pz_gets (i := 1) hC dX9_isWithin_13 rfl (Or.inl sl_X9_274) ?_
      refine pz_iload_n hC dX9_isWithin_16 0 rfl ?_
      refine pz_ialdS hC dX9_isWithin_17 hf (fun v2 hf => ?_)
      refine pz_icmp_lt hC dX9_isWithin_18 hf (fun _ hf => ?_) (fun _ hf => ?_)
      · refine pz_sub [] rfl ?_
        exact tX9_isWithin_34 hC hK hf
      · refine pz_iload_n hC dX9_isWithin_21 1 rfl ?_
        refine pz_gets (i := 2) hC dX9_isWithin_22 rfl (Or.inl sl_X9_271) ?_
        refine pz_iload_n hC dX9_isWithin_25 0 rfl ?_
        refine pz_ialdS hC dX9_isWithin_26 hf (fun v3 hf => ?_)
        refine pz_icmp_gt hC dX9_isWithin_27 hf (fun _ hf => ?_) (fun _ hf => ?_)
        · refine pz_sub [] rfl ?_
          exact tX9_isWithin_34 hC hK hf
        · refine pz_iconst (v := (1 : Int32)) hC dX9_isWithin_30 (by decide) ?_
          refine pz_goto hC dX9_isWithin_31 ?_
          refine pz_sub [] rfl ?_
          exact tX9_isWithin_35 hC hK hf
def fX3_canChange_56 (f : pz_H) (s0 : Int32) : Option Int32 :=
  pz_b s0
theorem tX3_canChange_56 {G : pz_G} {C : pz_C} {f : pz_H} {s0 : Int32} {r : Int32} (hC : pz_OK G C cX3_canChange 6 RX3) (hK : pz_K C (some .boolean) 1 21 0 0) (hf : fX3_canChange_56 f s0 = some r) : pz_W G C 6 56 [] [.int s0] f 0 0 (pz_Q G C (some (.int r)) f 0 0) := by
  unfold fX3_canChange_56 at hf
  exact pz_zret hC hK dX3_canChange_56 hf
def fX3_canChange_51 (f : pz_H) : Option Int32 :=
  fX3_canChange_56 f ((1 : Int32))
theorem tX3_canChange_51 {G : pz_G} {C : pz_C} {f : pz_H} {r : Int32} (hC : pz_OK G C cX3_canChange 6 RX3) (hK : pz_K C (some .boolean) 1 21 0 0) (hf : fX3_canChange_51 f = some r) : pz_W G C 6 51 [] [] f 0 0 (pz_Q G C (some (.int r)) f 0 0) := by
  unfold fX3_canChange_51 at hf
  refine pz_iconst (v := (1 : Int32)) hC dX3_canChange_51 (by decide) ?_
  refine pz_goto hC dX3_canChange_52 ?_
  exact tX3_canChange_56 hC hK hf
def fX3_canChange_55 (f : pz_H) : Option Int32 :=
  fX3_canChange_56 f ((0 : Int32))
theorem tX3_canChange_55 {G : pz_G} {C : pz_C} {f : pz_H} {r : Int32} (hC : pz_OK G C cX3_canChange 6 RX3) (hK : pz_K C (some .boolean) 1 21 0 0) (hf : fX3_canChange_55 f = some r) : pz_W G C 6 55 [] [] f 0 0 (pz_Q G C (some (.int r)) f 0 0) := by
  unfold fX3_canChange_55 at hf
  refine pz_iconst (v := (0 : Int32)) hC dX3_canChange_55 (by decide) ?_
  exact tX3_canChange_56 hC hK hf
def fX3_canChange_88 (f : pz_H) (s0 : Int32) : Option Int32 :=
  pz_b s0
theorem tX3_canChange_88 {G : pz_G} {C : pz_C} {f : pz_H} {s0 : Int32} {r : Int32} (hC : pz_OK G C cX3_canChange 6 RX3) (hK : pz_K C (some .boolean) 1 21 0 0) (hf : fX3_canChange_88 f s0 = some r) : pz_W G C 6 88 [] [.int s0] f 0 0 (pz_Q G C (some (.int r)) f 0 0) := by
  unfold fX3_canChange_88 at hf
  exact pz_zret hC hK dX3_canChange_88 hf
def fX3_canChange_83 (f : pz_H) : Option Int32 :=
  fX3_canChange_88 f ((1 : Int32))
theorem tX3_canChange_83 {G : pz_G} {C : pz_C} {f : pz_H} {r : Int32} (hC : pz_OK G C cX3_canChange 6 RX3) (hK : pz_K C (some .boolean) 1 21 0 0) (hf : fX3_canChange_83 f = some r) : pz_W G C 6 83 [] [] f 0 0 (pz_Q G C (some (.int r)) f 0 0) := by
  unfold fX3_canChange_83 at hf
  refine pz_iconst (v := (1 : Int32)) hC dX3_canChange_83 (by decide) ?_
  refine pz_goto hC dX3_canChange_84 ?_
  exact tX3_canChange_88 hC hK hf
def fX3_canChange_87 (f : pz_H) : Option Int32 :=
  fX3_canChange_88 f ((0 : Int32))
theorem tX3_canChange_87 {G : pz_G} {C : pz_C} {f : pz_H} {r : Int32} (hC : pz_OK G C cX3_canChange 6 RX3) (hK : pz_K C (some .boolean) 1 21 0 0) (hf : fX3_canChange_87 f = some r) : pz_W G C 6 87 [] [] f 0 0 (pz_Q G C (some (.int r)) f 0 0) := by
  unfold fX3_canChange_87 at hf
  refine pz_iconst (v := (0 : Int32)) hC dX3_canChange_87 (by decide) ?_
  exact tX3_canChange_88 hC hK hf
def fX3_canChange_248 (f : pz_H) (s0 : Int32) : Option Int32 :=
  pz_b s0
theorem tX3_canChange_248 {G : pz_G} {C : pz_C} {f : pz_H} {s0 : Int32} {r : Int32} (hC : pz_OK G C cX3_canChange 6 RX3) (hK : pz_K C (some .boolean) 1 21 0 0) (hf : fX3_canChange_248 f s0 = some r) : pz_W G C 6 248 [] [.int s0] f 0 0 (pz_Q G C (some (.int r)) f 0 0) := by
  unfold fX3_canChange_248 at hf
  exact pz_zret hC hK dX3_canChange_248 hf
def fX3_canChange_243 (f : pz_H) : Option Int32 :=
  fX3_canChange_248 f ((1 : Int32))
theorem tX3_canChange_243 {G : pz_G} {C : pz_C} {f : pz_H} {r : Int32} (hC : pz_OK G C cX3_canChange 6 RX3) (hK : pz_K C (some .boolean) 1 21 0 0) (hf : fX3_canChange_243 f = some r) : pz_W G C 6 243 [] [] f 0 0 (pz_Q G C (some (.int r)) f 0 0) := by
  unfold fX3_canChange_243 at hf
  refine pz_iconst (v := (1 : Int32)) hC dX3_canChange_243 (by decide) ?_
  refine pz_goto hC dX3_canChange_244 ?_
  exact tX3_canChange_248 hC hK hf
def fX3_canChange_247 (f : pz_H) : Option Int32 :=
  fX3_canChange_248 f ((0 : Int32))
theorem tX3_canChange_247 {G : pz_G} {C : pz_C} {f : pz_H} {r : Int32} (hC : pz_OK G C cX3_canChange 6 RX3) (hK : pz_K C (some .boolean) 1 21 0 0) (hf : fX3_canChange_247 f = some r) : pz_W G C 6 247 [] [] f 0 0 (pz_Q G C (some (.int r)) f 0 0) := by
  unfold fX3_canChange_247 at hf
  refine pz_iconst (v := (0 : Int32)) hC dX3_canChange_247 (by decide) ?_
  exact tX3_canChange_248 hC hK hf
def fX3_canChange_216 (f : pz_H) (s0 : Int32) : Option Int32 :=
  pz_b s0
theorem tX3_canChange_216 {G : pz_G} {C : pz_C} {f : pz_H} {s0 : Int32} {r : Int32} (hC : pz_OK G C cX3_canChange 6 RX3) (hK : pz_K C (some .boolean) 1 21 0 0) (hf : fX3_canChange_216 f s0 = some r) : pz_W G C 6 216 [] [.int s0] f 0 0 (pz_Q G C (some (.int r)) f 0 0) := by
  unfold fX3_canChange_216 at hf
  exact pz_zret hC hK dX3_canChange_216 hf
def fX3_canChange_215 (f : pz_H) : Option Int32 :=
  fX3_canChange_216 f ((0 : Int32))
theorem tX3_canChange_215 {G : pz_G} {C : pz_C} {f : pz_H} {r : Int32} (hC : pz_OK G C cX3_canChange 6 RX3) (hK : pz_K C (some .boolean) 1 21 0 0) (hf : fX3_canChange_215 f = some r) : pz_W G C 6 215 [] [] f 0 0 (pz_Q G C (some (.int r)) f 0 0) := by
  unfold fX3_canChange_215 at hf
  refine pz_iconst (v := (0 : Int32)) hC dX3_canChange_215 (by decide) ?_
  exact tX3_canChange_216 hC hK hf
def fX3_canChange_197 (f : pz_H) (s0 : Int32) : Option Int32 :=
  pz_b s0
theorem tX3_canChange_197 {G : pz_G} {C : pz_C} {f : pz_H} {s0 : Int32} {r : Int32} (hC : pz_OK G C cX3_canChange 6 RX3) (hK : pz_K C (some .boolean) 1 21 0 0) (hf : fX3_canChange_197 f s0 = some r) : pz_W G C 6 197 [] [.int s0] f 0 0 (pz_Q G C (some (.int r)) f 0 0) := by
  unfold fX3_canChange_197 at hf
  exact pz_zret hC hK dX3_canChange_197 hf
def fX3_canChange_196 (f : pz_H) : Option Int32 :=
  fX3_canChange_197 f ((0 : Int32))
theorem tX3_canChange_196 {G : pz_G} {C : pz_C} {f : pz_H} {r : Int32} (hC : pz_OK G C cX3_canChange 6 RX3) (hK : pz_K C (some .boolean) 1 21 0 0) (hf : fX3_canChange_196 f = some r) : pz_W G C 6 196 [] [] f 0 0 (pz_Q G C (some (.int r)) f 0 0) := by
  unfold fX3_canChange_196 at hf
  refine pz_iconst (v := (0 : Int32)) hC dX3_canChange_196 (by decide) ?_
  exact tX3_canChange_197 hC hK hf
def fX3_canChange_178 (f : pz_H) (s0 : Int32) : Option Int32 :=
  pz_b s0
theorem tX3_canChange_178 {G : pz_G} {C : pz_C} {f : pz_H} {s0 : Int32} {r : Int32} (hC : pz_OK G C cX3_canChange 6 RX3) (hK : pz_K C (some .boolean) 1 21 0 0) (hf : fX3_canChange_178 f s0 = some r) : pz_W G C 6 178 [] [.int s0] f 0 0 (pz_Q G C (some (.int r)) f 0 0) := by
  unfold fX3_canChange_178 at hf
  exact pz_zret hC hK dX3_canChange_178 hf
def fX3_canChange_177 (f : pz_H) : Option Int32 :=
  fX3_canChange_178 f ((0 : Int32))
theorem tX3_canChange_177 {G : pz_G} {C : pz_C} {f : pz_H} {r : Int32} (hC : pz_OK G C cX3_canChange 6 RX3) (hK : pz_K C (some .boolean) 1 21 0 0) (hf : fX3_canChange_177 f = some r) : pz_W G C 6 177 [] [] f 0 0 (pz_Q G C (some (.int r)) f 0 0) := by
  unfold fX3_canChange_177 at hf
  refine pz_iconst (v := (0 : Int32)) hC dX3_canChange_177 (by decide) ?_
  exact tX3_canChange_178 hC hK hf
def fX3_canChange_121 (f : pz_H) (l1 : Int32) (l3 : Int32) (l4 : Nat) (s0 : Int32) : Option Int32 :=
  if l1 = (1 : Int32) then if s0 = 0 then fX3_canChange_177 f else
  (fnX9_isWithin f ((5 : Int32)) l3).bind fun x1 =>
  if x1 = 0 then fX3_canChange_177 f else
  fX3_canChange_178 f ((1 : Int32)) else
  if l1 = (2 : Int32) then if s0 = 0 then fX3_canChange_196 f else
  (fnX9_isWithin f ((2 : Int32)) l3).bind fun x2 =>
  if x2 = 0 then fX3_canChange_196 f else
  fX3_canChange_197 f ((1 : Int32)) else
  if l1 = (3 : Int32) then if s0 = 0 then fX3_canChange_215 f else
  (fnX9_isWithin f ((5 : Int32)) l3).bind fun x3 =>
  if x3 = 0 then fX3_canChange_215 f else
  fX3_canChange_216 f ((1 : Int32)) else
  if l1 = (4 : Int32) then (fnX9_isMonth l3).bind fun x4 =>
  pz_b x4 else
  if l1 = (5 : Int32) then if l3 = ((-1) : Int32) then fX3_canChange_243 f else
  (fnX9_isMonth l3).bind fun x5 =>
  if x5 = 0 then fX3_canChange_247 f else
  (pz_gI f l4 6 0).bind fun v6 =>
  if l3 ≤ v6 then fX3_canChange_247 f else
  fX3_canChange_243 f else
  pz_b ((0 : Int32))
theorem tX3_canChange_121 {G : pz_G} {C : pz_C} {f : pz_H} {l1 : Int32} {l3 : Int32} {l4 : Nat} {s0 : Int32} {r : Int32} (hC : pz_OK G C cX3_canChange 6 RX3) (hK : pz_K C (some .boolean) 1 21 0 0) (hf : fX3_canChange_121 f l1 l3 l4 s0 = some r) : pz_W G C 6 121 [(1, .int l1), (3, .int l3), (4, .ref l4)] [.int s0] f 0 0 (pz_Q G C (some (.int r)) f 0 0) := by
  unfold fX3_canChange_121 at hf
  refine pz_istore hC dX3_canChange_121 (by decide) rfl ?_
  refine pz_iload_n hC dX3_canChange_123 1 rfl ?_
  refine pz_case (x := l1) (v := (1 : Int32)) hf (fun c124_1 hf => ?_) (fun c124_1 hf => ?_)
  · refine pz_tabI (tgt := 160) hC dX3_canChange_124 c124_1 (by decide) (by decide) rfl rfl ?_
    refine pz_iload hC dX3_canChange_160 0 rfl ?_
    refine pz_if_eq hC dX3_canChange_162 hf (fun _ hf => ?_) (fun _ hf => ?_)
    · refine pz_sub [] rfl ?_
      exact tX3_canChange_177 hC hK hf
    · refine pz_iconst (v := (5 : Int32)) hC dX3_canChange_165 (by decide) ?_
      refine pz_iload_n hC dX3_canChange_166 2 rfl ?_
      refine pz_Si (As := [.int (5 : Int32), .int l3]) hC hK dX3_canChange_167 py_X9_isWithin ps_X9_isWithin lk_X3_125 hf (fun _ h => mX9_isWithin h) rfl rfl (Nat.le_of_ble_eq_true rfl) ⟨by decide, by decide⟩ ⟨by decide, by decide⟩ (fun x1 hf => ?_)
      refine pz_if_eq hC dX3_canChange_170 hf (fun _ hf => ?_) (fun _ hf => ?_)
      · refine pz_sub [] rfl ?_
        exact tX3_canChange_177 hC hK hf
      · refine pz_iconst (v := (1 : Int32)) hC dX3_canChange_173 (by decide) ?_
        refine pz_goto hC dX3_canChange_174 ?_
        refine pz_sub [] rfl ?_
        exact tX3_canChange_178 hC hK hf
  refine pz_case (x := l1) (v := (2 : Int32)) hf (fun c124_2 hf => ?_) (fun c124_2 hf => ?_)
  · refine pz_tabI (tgt := 179) hC dX3_canChange_124 c124_2 (by decide) (by decide) rfl rfl ?_
    refine pz_iload hC dX3_canChange_179 0 rfl ?_
    refine pz_if_eq hC dX3_canChange_181 hf (fun _ hf => ?_) (fun _ hf => ?_)
    · refine pz_sub [] rfl ?_
      exact tX3_canChange_196 hC hK hf
    · refine pz_iconst (v := (2 : Int32)) hC dX3_canChange_184 (by decide) ?_
      refine pz_iload_n hC dX3_canChange_185 2 rfl ?_
      refine pz_Si (As := [.int (2 : Int32), .int l3]) hC hK dX3_canChange_186 py_X9_isWithin ps_X9_isWithin lk_X3_125 hf (fun _ h => mX9_isWithin h) rfl rfl (Nat.le_of_ble_eq_true rfl) ⟨by decide, by decide⟩ ⟨by decide, by decide⟩ (fun x2 hf => ?_)
      refine pz_if_eq hC dX3_canChange_189 hf (fun _ hf => ?_) (fun _ hf => ?_)
      · refine pz_sub [] rfl ?_
        exact tX3_canChange_196 hC hK hf
      · refine pz_iconst (v := (1 : Int32)) hC dX3_canChange_192 (by decide) ?_
        refine pz_goto hC dX3_canChange_193 ?_
        refine pz_sub [] rfl ?_
        exact tX3_canChange_197 hC hK hf
  refine pz_case (x := l1) (v := (3 : Int32)) hf (fun c124_3 hf => ?_) (fun c124_3 hf => ?_)
  · refine pz_tabI (tgt := 198) hC dX3_canChange_124 c124_3 (by decide) (by decide) rfl rfl ?_
    refine pz_iload hC dX3_canChange_198 0 rfl ?_
    refine pz_if_eq hC dX3_canChange_200 hf (fun _ hf => ?_) (fun _ hf => ?_)
    · refine pz_sub [] rfl ?_
      exact tX3_canChange_215 hC hK hf
    · refine pz_iconst (v := (5 : Int32)) hC dX3_canChange_203 (by decide) ?_
      refine pz_iload_n hC dX3_canChange_204 2 rfl ?_
      refine pz_Si (As := [.int (5 : Int32), .int l3]) hC hK dX3_canChange_205 py_X9_isWithin ps_X9_isWithin lk_X3_125 hf (fun _ h => mX9_isWithin h) rfl rfl (Nat.le_of_ble_eq_true rfl) ⟨by decide, by decide⟩ ⟨by decide, by decide⟩ (fun x3 hf => ?_)
      refine pz_if_eq hC dX3_canChange_208 hf (fun _ hf => ?_) (fun _ hf => ?_)
      · refine pz_sub [] rfl ?_
        exact tX3_canChange_215 hC hK hf
      · refine pz_iconst (v := (1 : Int32)) hC dX3_canChange_211 (by decide) ?_
        refine pz_goto hC dX3_canChange_212 ?_
        refine pz_sub [] rfl ?_
        exact tX3_canChange_216 hC hK hf
  refine pz_case (x := l1) (v := (4 : Int32)) hf (fun c124_4 hf => ?_) (fun c124_4 hf => ?_)
  · refine pz_tabI (tgt := 217) hC dX3_canChange_124 c124_4 (by decide) (by decide) rfl rfl ?_
    refine pz_iload_n hC dX3_canChange_217 2 rfl ?_
    refine pz_Si (As := [.int l3]) hC hK dX3_canChange_218 py_X9_isMonth ps_X9_isMonth lk_X3_129 hf (fun _ h => mX9_isMonth h) rfl rfl (Nat.le_of_ble_eq_true rfl) ⟨by decide, by decide⟩ ⟨by decide, by decide⟩ (fun x4 hf => ?_)
    exact pz_zret hC hK dX3_canChange_221 hf
  refine pz_case (x := l1) (v := (5 : Int32)) hf (fun c124_5 hf => ?_) (fun c124_5 hf => ?_)
  · refine pz_tabI (tgt := 222) hC dX3_canChange_124 c124_5 (by decide) (by decide) rfl rfl ?_
    refine pz_iload_n hC dX3_canChange_222 2 rfl ?_
    refine pz_iconst (v := ((-1) : Int32)) hC dX3_canChange_223 (by decide) ?_
    refine pz_icmp_eq hC dX3_canChange_224 hf (fun _ hf => ?_) (fun _ hf => ?_)
    · refine pz_sub [] rfl ?_
      exact tX3_canChange_243 hC hK hf
    · refine pz_iload_n hC dX3_canChange_227 2 rfl ?_
      refine pz_Si (As := [.int l3]) hC hK dX3_canChange_228 py_X9_isMonth ps_X9_isMonth lk_X3_129 hf (fun _ h => mX9_isMonth h) rfl rfl (Nat.le_of_ble_eq_true rfl) ⟨by decide, by decide⟩ ⟨by decide, by decide⟩ (fun x5 hf => ?_)
      refine pz_if_eq hC dX3_canChange_231 hf (fun _ hf => ?_) (fun _ hf => ?_)
      · refine pz_sub [] rfl ?_
        exact tX3_canChange_247 hC hK hf
      · refine pz_iload_n hC dX3_canChange_234 2 rfl ?_
        refine pz_aload hC dX3_canChange_235 3 rfl ?_
        refine pz_getI hC dX3_canChange_237 fa_X3_139 hf (fun v6 hf => ?_)
        refine pz_icmp_le hC dX3_canChange_240 hf (fun _ hf => ?_) (fun _ hf => ?_)
        · refine pz_sub [] rfl ?_
          exact tX3_canChange_247 hC hK hf
        · refine pz_sub [] rfl ?_
          exact tX3_canChange_243 hC hK hf
  have ec124_1 : ¬ l1.toInt = 1 := lv_neT c124_1 rfl
  have ec124_2 : ¬ l1.toInt = 2 := lv_neT c124_2 rfl
  have ec124_3 : ¬ l1.toInt = 3 := lv_neT c124_3 rfl
  have ec124_4 : ¬ l1.toInt = 4 := lv_neT c124_4 rfl
  have ec124_5 : ¬ l1.toInt = 5 := lv_neT c124_5 rfl
  refine pz_tabO (tgt := 249) hC dX3_canChange_124 (by omega) rfl ?_
  refine pz_iconst (v := (0 : Int32)) hC dX3_canChange_249 (by decide) ?_
  exact pz_zret hC hK dX3_canChange_250 hf
def fnX3_canChange (f : pz_H) (a0 : Nat) (p1 : Int32) (p2 : Int32) (p3 : Int32) : Option Int32 :=
  (pz_is f a0 2).bind fun _ =>
  (fnX9_isTerm p1).bind fun x1 =>
  if x1 = 0 then if p1 = 0 then if p3 = ((-1) : Int32) then fX3_canChange_51 f else
  (fnX9_isMonth p3).bind fun x8 =>
  if x8 = 0 then fX3_canChange_55 f else
  (pz_gI f a0 2 0).bind fun v9 =>
  if p3 < v9 then fX3_canChange_55 f else
  (fnX3_lastTo f a0).bind fun x10 =>
  if p3 < x10 then fX3_canChange_55 f else
  fX3_canChange_51 f else
  if p1 = (6 : Int32) then if p3 = ((-1) : Int32) then fX3_canChange_83 f else
  (fnX9_isMonth p3).bind fun x6 =>
  if x6 = 0 then fX3_canChange_87 f else
  (pz_gI f a0 2 0).bind fun v7 =>
  if p3 ≤ v7 then fX3_canChange_87 f else
  fX3_canChange_83 f else
  (fnX3_hasSpouse f a0 p2).bind fun x2 =>
  if x2 = 0 then pz_b ((0 : Int32)) else
  (pz_gR f a0 2 7).bind fun v3 =>
  (pz_aR f v3 4 p2).bind fun v4 =>
  (pz_gI f v4 6 2).bind fun v5 =>
  if v5 = ((-1) : Int32) then fX3_canChange_121 f p1 p3 v4 ((0 : Int32)) else
  fX3_canChange_121 f p1 p3 v4 ((1 : Int32)) else
  (fnX9_isWithin f ((((8 : Int32) + p1) - (10 : Int32))) p3).bind fun x11 =>
  pz_b x11
theorem mX3_canChange {l : Launch} {G : pz_G} {f : pz_H} {a0 : Nat} {p1 : Int32} {p2 : Int32} {p3 : Int32} {r : Int32} (hf : fnX3_canChange f a0 p1 p2 p3 = some r) : pz_Met l G yX3_canChange cX3_canChange 6 (some .boolean) 1 21 0 0 [.ref a0, .int p1, .int p2, .int p3] f (some (.int r)) f ∧ pz_is f a0 2 = some () := by
  unfold fnX3_canChange at hf
  obtain ⟨_, h0, hf⟩ := pz_bd hf
  refine ⟨pz_enter (by decide +kernel) (Nat.le_of_ble_eq_true rfl) (fun C hl hC hK hnm => ?_), h0⟩
  subst hl
  refine pz_sub (lv' := [(0, .ref a0), (1, .int p1), (2, .int p2), (3, .int p3)]) [0, 1, 2, 3] rfl ?_
  refine pz_iload_n hC dX3_canChange_0 1 rfl ?_
  refine pz_Si (As := [.int p1]) hC hK dX3_canChange_1 py_X9_isTerm ps_X9_isTerm lk_X3_122 hf (fun _ h => mX9_isTerm h) rfl rfl (Nat.le_of_ble_eq_true rfl) ⟨by decide, by decide⟩ ⟨by decide, by decide⟩ (fun x1 hf => ?_)
  refine pz_if_eq hC dX3_canChange_4 hf (fun _ hf => ?_) (fun _ hf => ?_)
  · refine pz_iload_n hC dX3_canChange_19 1 rfl ?_
    refine pz_if_ne hC dX3_canChange_20 hf (fun _ hf => ?_) (fun _ hf => ?_)
    · refine pz_iload_n hC dX3_canChange_57 1 rfl ?_
      refine pz_bipush (v := (6 : Int32)) hC dX3_canChange_58 (by decide) ?_
      refine pz_icmp_ne hC dX3_canChange_60 hf (fun _ hf => ?_) (fun _ hf => ?_)
      · refine pz_aload_n hC dX3_canChange_89 0 rfl ?_
        refine pz_iload_n hC dX3_canChange_90 2 rfl ?_
        refine pz_Vi (As := [.int p2]) hC hK dX3_canChange_91 py_X3_hasSpouse pv_X3_hasSpouse lk_X3_136 hf (fun _ h => mX3_hasSpouse h) rfl rfl (Nat.le_of_ble_eq_true rfl) ⟨by decide, by decide⟩ ⟨Nat.le_of_ble_eq_true rfl, Nat.le_of_ble_eq_true rfl⟩ (fun x2 hf => ?_)
        refine pz_if_ne hC dX3_canChange_94 hf (fun _ hf => ?_) (fun _ hf => ?_)
        · refine pz_aload_n hC dX3_canChange_99 0 rfl ?_
          refine pz_getR hC dX3_canChange_100 fa_X3_23 hf (fun v3 hf => ?_)
          refine pz_iload_n hC dX3_canChange_103 2 rfl ?_
          refine pz_aald hC dX3_canChange_104 (fun _ => rfl) (by decide) hf (fun v4 hf => ?_)
          refine pz_astore hC dX3_canChange_105 (by decide) rfl ?_
          refine pz_aload hC dX3_canChange_107 0 rfl ?_
          refine pz_getI hC dX3_canChange_109 fa_X3_99 hf (fun v5 hf => ?_)
          refine pz_iconst (v := ((-1) : Int32)) hC dX3_canChange_112 (by decide) ?_
          refine pz_icmp_eq hC dX3_canChange_113 hf (fun _ hf => ?_) (fun _ hf => ?_)
          · refine pz_iconst (v := (0 : Int32)) hC dX3_canChange_120 (by decide) ?_
            refine pz_sub [2, 4, 0] rfl ?_
            exact tX3_canChange_121 hC hK hf
          · refine pz_iconst (v := (1 : Int32)) hC dX3_canChange_116 (by decide) ?_
            refine pz_goto hC dX3_canChange_117 ?_
            refine pz_sub [2, 4, 0] rfl ?_
            exact tX3_canChange_121 hC hK hf
        · refine pz_iconst (v := (0 : Int32)) hC dX3_canChange_97 (by decide) ?_
          exact pz_zret hC hK dX3_canChange_98 hf
      · refine pz_iload_n hC dX3_canChange_63 3 rfl ?_
        refine pz_iconst (v := ((-1) : Int32)) hC dX3_canChange_64 (by decide) ?_
        refine pz_icmp_eq hC dX3_canChange_65 hf (fun _ hf => ?_) (fun _ hf => ?_)
        · refine pz_sub [] rfl ?_
          exact tX3_canChange_83 hC hK hf
        · refine pz_iload_n hC dX3_canChange_68 3 rfl ?_
          refine pz_Si (As := [.int p3]) hC hK dX3_canChange_69 py_X9_isMonth ps_X9_isMonth lk_X3_129 hf (fun _ h => mX9_isMonth h) rfl rfl (Nat.le_of_ble_eq_true rfl) ⟨by decide, by decide⟩ ⟨by decide, by decide⟩ (fun x6 hf => ?_)
          refine pz_if_eq hC dX3_canChange_72 hf (fun _ hf => ?_) (fun _ hf => ?_)
          · refine pz_sub [] rfl ?_
            exact tX3_canChange_87 hC hK hf
          · refine pz_iload_n hC dX3_canChange_75 3 rfl ?_
            refine pz_aload_n hC dX3_canChange_76 0 rfl ?_
            refine pz_getI hC dX3_canChange_77 fa_X3_40 hf (fun v7 hf => ?_)
            refine pz_icmp_le hC dX3_canChange_80 hf (fun _ hf => ?_) (fun _ hf => ?_)
            · refine pz_sub [] rfl ?_
              exact tX3_canChange_87 hC hK hf
            · refine pz_sub [] rfl ?_
              exact tX3_canChange_83 hC hK hf
    · refine pz_iload_n hC dX3_canChange_23 3 rfl ?_
      refine pz_iconst (v := ((-1) : Int32)) hC dX3_canChange_24 (by decide) ?_
      refine pz_icmp_eq hC dX3_canChange_25 hf (fun _ hf => ?_) (fun _ hf => ?_)
      · refine pz_sub [] rfl ?_
        exact tX3_canChange_51 hC hK hf
      · refine pz_iload_n hC dX3_canChange_28 3 rfl ?_
        refine pz_Si (As := [.int p3]) hC hK dX3_canChange_29 py_X9_isMonth ps_X9_isMonth lk_X3_129 hf (fun _ h => mX9_isMonth h) rfl rfl (Nat.le_of_ble_eq_true rfl) ⟨by decide, by decide⟩ ⟨by decide, by decide⟩ (fun x8 hf => ?_)
        refine pz_if_eq hC dX3_canChange_32 hf (fun _ hf => ?_) (fun _ hf => ?_)
        · refine pz_sub [] rfl ?_
          exact tX3_canChange_55 hC hK hf
        · refine pz_iload_n hC dX3_canChange_35 3 rfl ?_
          refine pz_aload_n hC dX3_canChange_36 0 rfl ?_
          refine pz_getI hC dX3_canChange_37 fa_X3_40 hf (fun v9 hf => ?_)
          refine pz_icmp_lt hC dX3_canChange_40 hf (fun _ hf => ?_) (fun _ hf => ?_)
          · refine pz_sub [] rfl ?_
            exact tX3_canChange_55 hC hK hf
          · refine pz_iload_n hC dX3_canChange_43 3 rfl ?_
            refine pz_aload_n hC dX3_canChange_44 0 rfl ?_
            refine pz_Vi (As := []) hC hK dX3_canChange_45 py_X3_lastTo pv_X3_lastTo lk_X3_132 hf (fun _ h => mX3_lastTo h) rfl rfl (Nat.le_of_ble_eq_true rfl) ⟨by decide, by decide⟩ ⟨Nat.le_of_ble_eq_true rfl, Nat.le_of_ble_eq_true rfl⟩ (fun x10 hf => ?_)
            refine pz_icmp_lt hC dX3_canChange_48 hf (fun _ hf => ?_) (fun _ hf => ?_)
            · refine pz_sub [] rfl ?_
              exact tX3_canChange_55 hC hK hf
            · refine pz_sub [] rfl ?_
              exact tX3_canChange_51 hC hK hf
  · refine pz_bipush (v := (8 : Int32)) hC dX3_canChange_7 (by decide) ?_
    refine pz_iload_n hC dX3_canChange_9 1 rfl ?_
    refine pz_iadd hC dX3_canChange_10 ?_
    refine pz_bipush (v := (10 : Int32)) hC dX3_canChange_11 (by decide) ?_
    refine pz_isub hC dX3_canChange_13 ?_
    refine pz_iload_n hC dX3_canChange_14 3 rfl ?_
    refine pz_Si (As := [.int (((8 : Int32) + p1) - (10 : Int32)), .int p3]) hC hK dX3_canChange_15 py_X9_isWithin ps_X9_isWithin lk_X3_125 hf (fun _ h => mX9_isWithin h) rfl rfl (Nat.le_of_ble_eq_true rfl) ⟨by decide, by decide⟩ ⟨by decide, by decide⟩ (fun x11 hf => ?_)
    exact pz_zret hC hK dX3_canChange_18 hf
def fX3_changeSpouse_76 (f : pz_H) : Option pz_H :=
  some f
theorem tX3_changeSpouse_76 {G : pz_G} {C : pz_C} {f : pz_H} {r : pz_H} (hC : pz_OK G C cX3_changeSpouse 3 RX3) (hK : pz_K C none 0 0 0 0) (hf : fX3_changeSpouse_76 f = some r) : pz_W G C 3 76 [] [] f 0 0 (pz_Q G C none r 0 0) := by
  unfold fX3_changeSpouse_76 at hf
  exact pz_vret hC hK dX3_changeSpouse_76 hf
def fnX3_changeSpouse (f : pz_H) (p0 : Nat) (p1 : Int32) (p2 : Int32) : Option pz_H :=
  if p1 = (1 : Int32) then (pz_sV f p0 6 3 (.int p2)).bind fun f1 =>
  fX3_changeSpouse_76 f1 else
  if p1 = (2 : Int32) then (pz_sV f p0 6 4 (.int p2)).bind fun f2 =>
  fX3_changeSpouse_76 f2 else
  if p1 = (3 : Int32) then (pz_sV f p0 6 5 (.int p2)).bind fun f3 =>
  fX3_changeSpouse_76 f3 else
  if p1 = (4 : Int32) then (pz_sV f p0 6 6 (.int p2)).bind fun f4 =>
  fX3_changeSpouse_76 f4 else
  if p1 = (5 : Int32) then (pz_sV f p0 6 7 (.int p2)).bind fun f5 =>
  fX3_changeSpouse_76 f5 else
  fX3_changeSpouse_76 f
theorem mX3_changeSpouse {l : Launch} {G : pz_G} {f : pz_H} {p0 : Nat} {p1 : Int32} {p2 : Int32} {r : pz_H} (hf : fnX3_changeSpouse f p0 p1 p2 = some r) : pz_Met l G yX3_changeSpouse cX3_changeSpouse 3 none 0 0 0 0 [.ref p0, .int p1, .int p2] f none r := by
  unfold fnX3_changeSpouse at hf
  refine pz_enter (by decide +kernel) (Nat.le_of_ble_eq_true rfl) (fun C hl hC hK hnm => ?_)
  subst hl
  refine pz_sub (lv' := [(0, .ref p0), (1, .int p1), (2, .int p2)]) [0, 1, 2] rfl ?_
  refine pz_iload_n hC dX3_changeSpouse_0 1 rfl ?_
  refine pz_case (x := p1) (v := (1 : Int32)) hf (fun c1_1 hf => ?_) (fun c1_1 hf => ?_)
  · refine pz_tabI (tgt := 36) hC dX3_changeSpouse_1 c1_1 (by decide) (by decide) rfl rfl ?_
    refine pz_aload_n hC dX3_changeSpouse_36 0 rfl ?_
    refine pz_iload_n hC dX3_changeSpouse_37 2 rfl ?_
    refine pz_putV hC dX3_changeSpouse_38 fp_X3_105 rfl rfl hf (fun f1 hf => ?_)
    refine pz_goto hC dX3_changeSpouse_41 ?_
    refine pz_sub [] rfl ?_
    exact tX3_changeSpouse_76 hC hK hf
  refine pz_case (x := p1) (v := (2 : Int32)) hf (fun c1_2 hf => ?_) (fun c1_2 hf => ?_)
  · refine pz_tabI (tgt := 44) hC dX3_changeSpouse_1 c1_2 (by decide) (by decide) rfl rfl ?_
    refine pz_aload_n hC dX3_changeSpouse_44 0 rfl ?_
    refine pz_iload_n hC dX3_changeSpouse_45 2 rfl ?_
    refine pz_putV hC dX3_changeSpouse_46 fp_X3_108 rfl rfl hf (fun f2 hf => ?_)
    refine pz_goto hC dX3_changeSpouse_49 ?_
    refine pz_sub [] rfl ?_
    exact tX3_changeSpouse_76 hC hK hf
  refine pz_case (x := p1) (v := (3 : Int32)) hf (fun c1_3 hf => ?_) (fun c1_3 hf => ?_)
  · refine pz_tabI (tgt := 52) hC dX3_changeSpouse_1 c1_3 (by decide) (by decide) rfl rfl ?_
    refine pz_aload_n hC dX3_changeSpouse_52 0 rfl ?_
    refine pz_iload_n hC dX3_changeSpouse_53 2 rfl ?_
    refine pz_putV hC dX3_changeSpouse_54 fp_X3_111 rfl rfl hf (fun f3 hf => ?_)
    refine pz_goto hC dX3_changeSpouse_57 ?_
    refine pz_sub [] rfl ?_
    exact tX3_changeSpouse_76 hC hK hf
  refine pz_case (x := p1) (v := (4 : Int32)) hf (fun c1_4 hf => ?_) (fun c1_4 hf => ?_)
  · refine pz_tabI (tgt := 60) hC dX3_changeSpouse_1 c1_4 (by decide) (by decide) rfl rfl ?_
    refine pz_aload_n hC dX3_changeSpouse_60 0 rfl ?_
    refine pz_iload_n hC dX3_changeSpouse_61 2 rfl ?_
    refine pz_putV hC dX3_changeSpouse_62 fp_X3_140 rfl rfl hf (fun f4 hf => ?_)
    refine pz_goto hC dX3_changeSpouse_65 ?_
    refine pz_sub [] rfl ?_
    exact tX3_changeSpouse_76 hC hK hf
  refine pz_case (x := p1) (v := (5 : Int32)) hf (fun c1_5 hf => ?_) (fun c1_5 hf => ?_)
  · refine pz_tabI (tgt := 68) hC dX3_changeSpouse_1 c1_5 (by decide) (by decide) rfl rfl ?_
    refine pz_aload_n hC dX3_changeSpouse_68 0 rfl ?_
    refine pz_iload_n hC dX3_changeSpouse_69 2 rfl ?_
    refine pz_putV hC dX3_changeSpouse_70 fp_X3_143 rfl rfl hf (fun f5 hf => ?_)
    refine pz_goto hC dX3_changeSpouse_73 ?_
    refine pz_sub [] rfl ?_
    exact tX3_changeSpouse_76 hC hK hf
  have ec1_1 : ¬ p1.toInt = 1 := lv_neT c1_1 rfl
  have ec1_2 : ¬ p1.toInt = 2 := lv_neT c1_2 rfl
  have ec1_3 : ¬ p1.toInt = 3 := lv_neT c1_3 rfl
  have ec1_4 : ¬ p1.toInt = 4 := lv_neT c1_4 rfl
  have ec1_5 : ¬ p1.toInt = 5 := lv_neT c1_5 rfl
  refine pz_tabO (tgt := 76) hC dX3_changeSpouse_1 (by omega) rfl ?_
  refine pz_sub [] rfl ?_
  exact tX3_changeSpouse_76 hC hK hf
