def fX3_change_65 (f : pz_H) : Option pz_H :=
  some f
theorem tX3_change_65 {G : pz_G} {C : pz_C} {f : pz_H} {r : pz_H} (hC : pz_OK G C cX3_change 4 RX3) (hK : pz_K C none 1 22 0 0) (hf : fX3_change_65 f = some r) : pz_W G C 4 65 [] [] f 0 0 (pz_Q G C none r 0 0) := by
  unfold fX3_change_65 at hf
  exact pz_vret hC hK dX3_change_65 hf
def fnX3_change (f : pz_H) (a0 : Nat) (p1 : Int32) (p2 : Int32) (p3 : Int32) : Option pz_H :=
  (pz_is f a0 2).bind fun _ =>
  (fnX9_isTerm p1).bind fun x1 =>
  if x1 = 0 then if p1 = 0 then (pz_sV f a0 2 1 (.int p3)).bind fun f7 =>
  fX3_change_65 f7 else
  if p1 = (6 : Int32) then (pz_sV f a0 2 2 (.int p3)).bind fun f6 =>
  fX3_change_65 f6 else
  (fnX3_hasSpouse f a0 p2).bind fun x2 =>
  if x2 = 0 then fX3_change_65 f else
  (pz_gR f a0 2 7).bind fun v3 =>
  (pz_aR f v3 4 p2).bind fun v4 =>
  (fnX3_changeSpouse f v4 p1 p3).bind fun x5 =>
  fX3_change_65 x5 else
  (pz_gR f a0 2 3).bind fun v8 =>
  (pz_tI f v8 0 ((p1 - (10 : Int32))) p3).bind fun f9 =>
  fX3_change_65 f9
theorem mX3_change {l : Launch} {G : pz_G} {f : pz_H} {a0 : Nat} {p1 : Int32} {p2 : Int32} {p3 : Int32} {r : pz_H} (hf : fnX3_change f a0 p1 p2 p3 = some r) : pz_Met l G yX3_change cX3_change 4 none 1 22 0 0 [.ref a0, .int p1, .int p2, .int p3] f none r ∧ pz_is f a0 2 = some () := by
  unfold fnX3_change at hf
  obtain ⟨_, h0, hf⟩ := pz_bd hf
  refine ⟨pz_enter (by decide +kernel) (Nat.le_of_ble_eq_true rfl) (fun C hl hC hK hnm => ?_), h0⟩
  subst hl
  refine pz_sub (lv' := [(0, .ref a0), (1, .int p1), (2, .int p2), (3, .int p3)]) [0, 1, 2, 3] rfl ?_
  refine pz_iload_n hC dX3_change_0 1 rfl ?_
  refine pz_Si (As := [.int p1]) hC hK dX3_change_1 py_X9_isTerm ps_X9_isTerm lk_X3_122 hf (fun _ h => mX9_isTerm h) rfl rfl (Nat.le_of_ble_eq_true rfl) ⟨by decide, by decide⟩ ⟨by decide, by decide⟩ (fun x1 hf => ?_)
  refine pz_if_eq hC dX3_change_4 hf (fun _ hf => ?_) (fun _ hf => ?_)
  · refine pz_iload_n hC dX3_change_20 1 rfl ?_
    refine pz_if_ne hC dX3_change_21 hf (fun _ hf => ?_) (fun _ hf => ?_)
    · refine pz_iload_n hC dX3_change_32 1 rfl ?_
      refine pz_bipush (v := (6 : Int32)) hC dX3_change_33 (by decide) ?_
      refine pz_icmp_ne hC dX3_change_35 hf (fun _ hf => ?_) (fun _ hf => ?_)
      · refine pz_aload_n hC dX3_change_46 0 rfl ?_
        refine pz_iload_n hC dX3_change_47 2 rfl ?_
        refine pz_Vi (As := [.int p2]) hC hK dX3_change_48 py_X3_hasSpouse pv_X3_hasSpouse lk_X3_136 hf (fun _ h => mX3_hasSpouse h) rfl rfl (Nat.le_of_ble_eq_true rfl) ⟨by decide, by decide⟩ ⟨Nat.le_of_ble_eq_true rfl, Nat.le_of_ble_eq_true rfl⟩ (fun x2 hf => ?_)
        refine pz_if_eq hC dX3_change_51 hf (fun _ hf => ?_) (fun _ hf => ?_)
        · refine pz_sub [] rfl ?_
          exact tX3_change_65 hC hK hf
        · refine pz_aload_n hC dX3_change_54 0 rfl ?_
          refine pz_getR hC dX3_change_55 fa_X3_23 hf (fun v3 hf => ?_)
          refine pz_iload_n hC dX3_change_58 2 rfl ?_
          refine pz_aald hC dX3_change_59 (fun _ => rfl) (by decide) hf (fun v4 hf => ?_)
          refine pz_iload_n hC dX3_change_60 1 rfl ?_
          refine pz_iload_n hC dX3_change_61 3 rfl ?_
          refine pz_Sv (As := [.ref v4, .int p1, .int p3]) hC hK dX3_change_62 py_X3_changeSpouse ps_X3_changeSpouse lk_X3_144 hf (fun _ h => mX3_changeSpouse h) rfl rfl (Nat.le_of_ble_eq_true rfl) ⟨by decide, by decide⟩ ⟨by decide, by decide⟩ (fun x5 hf => ?_)
          refine pz_sub [] rfl ?_
          exact tX3_change_65 hC hK hf
      · refine pz_aload_n hC dX3_change_38 0 rfl ?_
        refine pz_iload_n hC dX3_change_39 3 rfl ?_
        refine pz_putV hC dX3_change_40 fp_X3_47 rfl rfl hf (fun f6 hf => ?_)
        refine pz_goto hC dX3_change_43 ?_
        refine pz_sub [] rfl ?_
        exact tX3_change_65 hC hK hf
    · refine pz_aload_n hC dX3_change_24 0 rfl ?_
      refine pz_iload_n hC dX3_change_25 3 rfl ?_
      refine pz_putV hC dX3_change_26 fp_X3_44 rfl rfl hf (fun f7 hf => ?_)
      refine pz_goto hC dX3_change_29 ?_
      refine pz_sub [] rfl ?_
      exact tX3_change_65 hC hK hf
  · refine pz_aload_n hC dX3_change_7 0 rfl ?_
    refine pz_getR hC dX3_change_8 fa_X3_9 hf (fun v8 hf => ?_)
    refine pz_iload_n hC dX3_change_11 1 rfl ?_
    refine pz_bipush (v := (10 : Int32)) hC dX3_change_12 (by decide) ?_
    refine pz_isub hC dX3_change_14 ?_
    refine pz_iload_n hC dX3_change_15 3 rfl ?_
    refine pz_iast hC dX3_change_16 hf (fun f9 hf => ?_)
    refine pz_goto hC dX3_change_17 ?_
    refine pz_sub [] rfl ?_
    exact tX3_change_65 hC hK hf
def fnX3_alter (f : pz_H) (a0 : Nat) (p1 : Int32) (p2 : Int32) (p3 : Int32) : Option (Int32 × pz_H) :=
  (pz_is f a0 2).bind fun _ =>
  (fnX3_canChange f a0 p1 p2 p3).bind fun x1 =>
  if x1 = 0 then (pz_b ((0 : Int32))).bind fun x => some (x, f) else
  (fnX3_change f a0 p1 p2 p3).bind fun x2 =>
  (pz_b ((1 : Int32))).bind fun x => some (x, x2)
theorem mX3_alter {l : Launch} {G : pz_G} {f : pz_H} {a0 : Nat} {p1 : Int32} {p2 : Int32} {p3 : Int32} {r : (Int32 × pz_H)} (hf : fnX3_alter f a0 p1 p2 p3 = some r) : pz_Met l G yX3_alter cX3_alter 4 (some .boolean) 2 46 0 0 [.ref a0, .int p1, .int p2, .int p3] f (some (.int r.1)) r.2 ∧ pz_is f a0 2 = some () := by
  unfold fnX3_alter at hf
  obtain ⟨_, h0, hf⟩ := pz_bd hf
  refine ⟨pz_enter (by decide +kernel) (Nat.le_of_ble_eq_true rfl) (fun C hl hC hK hnm => ?_), h0⟩
  subst hl
  refine pz_sub (lv' := [(0, .ref a0), (1, .int p1), (2, .int p2), (3, .int p3)]) [0, 1, 2, 3] rfl ?_
  refine pz_aload_n hC dX3_alter_0 0 rfl ?_
  refine pz_iload_n hC dX3_alter_1 1 rfl ?_
  refine pz_iload_n hC dX3_alter_2 2 rfl ?_
  refine pz_iload_n hC dX3_alter_3 3 rfl ?_
  refine pz_Vi (As := [.int p1, .int p2, .int p3]) hC hK dX3_alter_4 py_X3_canChange pv_X3_canChange lk_X3_114 hf (fun _ h => mX3_canChange h) rfl rfl (Nat.le_of_ble_eq_true rfl) ⟨by decide, by decide⟩ ⟨Nat.le_of_ble_eq_true rfl, Nat.le_of_ble_eq_true rfl⟩ (fun x1 hf => ?_)
  refine pz_if_ne hC dX3_alter_7 hf (fun _ hf => ?_) (fun _ hf => ?_)
  · refine pz_aload_n hC dX3_alter_12 0 rfl ?_
    refine pz_iload_n hC dX3_alter_13 1 rfl ?_
    refine pz_iload_n hC dX3_alter_14 2 rfl ?_
    refine pz_iload_n hC dX3_alter_15 3 rfl ?_
    refine pz_Vv (As := [.int p1, .int p2, .int p3]) hC hK dX3_alter_16 py_X3_change pv_X3_change lk_X3_118 hf (fun _ h => mX3_change h) rfl rfl (Nat.le_of_ble_eq_true rfl) ⟨by decide, by decide⟩ ⟨Nat.le_of_ble_eq_true rfl, Nat.le_of_ble_eq_true rfl⟩ (fun x2 hf => ?_)
    refine pz_iconst (v := (1 : Int32)) hC dX3_alter_19 (by decide) ?_
    exact pz_zretw hC hK dX3_alter_20 hf
  · refine pz_iconst (v := (0 : Int32)) hC dX3_alter_10 (by decide) ?_
    exact pz_zretw hC hK dX3_alter_11 hf
def fX3_valueOf_40 (f : pz_H) (l0 : Nat) : Option Int32 :=
  (pz_gI f l0 2 2).bind fun v1 =>
  some v1
theorem tX3_valueOf_40 {G : pz_G} {C : pz_C} {f : pz_H} {l0 : Nat} {r : Int32} (hC : pz_OK G C cX3_valueOf 4 RX3) (hK : pz_K C (some .int) 1 21 0 0) (hf : fX3_valueOf_40 f l0 = some r) : pz_W G C 4 40 [(0, .ref l0)] [] f 0 0 (pz_Q G C (some (.int r)) f 0 0) := by
  unfold fX3_valueOf_40 at hf
  refine pz_aload_n hC dX3_valueOf_40 0 rfl ?_
  refine pz_getI hC dX3_valueOf_41 fa_X3_47 hf (fun v1 hf => ?_)
  exact pz_iret hC hK dX3_valueOf_44 hf
def fnX3_valueOf (f : pz_H) (a0 : Nat) (p1 : Int32) (p2 : Int32) : Option Int32 :=
  (pz_is f a0 2).bind fun _ =>
  (fnX9_isTerm p1).bind fun x1 =>
  if x1 = 0 then if p1 = 0 then (pz_gI f a0 2 1).bind fun v10 =>
  some v10 else
  if p1 = (6 : Int32) then fX3_valueOf_40 f a0 else
  (fnX3_hasSpouse f a0 p2).bind fun x2 =>
  if x2 = 0 then fX3_valueOf_40 f a0 else
  (pz_gR f a0 2 7).bind fun v3 =>
  (pz_aR f v3 4 p2).bind fun v4 =>
  if p1 = (1 : Int32) then (pz_gI f v4 6 3).bind fun v5 =>
  some v5 else
  if p1 = (2 : Int32) then (pz_gI f v4 6 4).bind fun v6 =>
  some v6 else
  if p1 = (3 : Int32) then (pz_gI f v4 6 5).bind fun v7 =>
  some v7 else
  if p1 = (4 : Int32) then (pz_gI f v4 6 6).bind fun v8 =>
  some v8 else
  (pz_gI f v4 6 7).bind fun v9 =>
  some v9 else
  (pz_gR f a0 2 3).bind fun v11 =>
  (pz_aI f v11 0 ((p1 - (10 : Int32)))).bind fun v12 =>
  some v12
theorem mX3_valueOf {l : Launch} {G : pz_G} {f : pz_H} {a0 : Nat} {p1 : Int32} {p2 : Int32} {r : Int32} (hf : fnX3_valueOf f a0 p1 p2 = some r) : pz_Met l G yX3_valueOf cX3_valueOf 4 (some .int) 1 21 0 0 [.ref a0, .int p1, .int p2] f (some (.int r)) f ∧ pz_is f a0 2 = some () := by
  unfold fnX3_valueOf at hf
  obtain ⟨_, h0, hf⟩ := pz_bd hf
  refine ⟨pz_enter (by decide +kernel) (Nat.le_of_ble_eq_true rfl) (fun C hl hC hK hnm => ?_), h0⟩
  subst hl
  refine pz_sub (lv' := [(0, .ref a0), (1, .int p1), (2, .int p2)]) [0, 1, 2] rfl ?_
  refine pz_iload_n hC dX3_valueOf_0 1 rfl ?_
  refine pz_Si (As := [.int p1]) hC hK dX3_valueOf_1 py_X9_isTerm ps_X9_isTerm lk_X3_122 hf (fun _ h => mX9_isTerm h) rfl rfl (Nat.le_of_ble_eq_true rfl) ⟨by decide, by decide⟩ ⟨by decide, by decide⟩ (fun x1 hf => ?_)
  refine pz_if_eq hC dX3_valueOf_4 hf (fun _ hf => ?_) (fun _ hf => ?_)
  · refine pz_iload_n hC dX3_valueOf_17 1 rfl ?_
    refine pz_if_ne hC dX3_valueOf_18 hf (fun _ hf => ?_) (fun _ hf => ?_)
    · refine pz_iload_n hC dX3_valueOf_26 1 rfl ?_
      refine pz_bipush (v := (6 : Int32)) hC dX3_valueOf_27 (by decide) ?_
      refine pz_icmp_eq hC dX3_valueOf_29 hf (fun _ hf => ?_) (fun _ hf => ?_)
      · refine pz_sub [0] rfl ?_
        exact tX3_valueOf_40 hC hK hf
      · refine pz_aload_n hC dX3_valueOf_32 0 rfl ?_
        refine pz_iload_n hC dX3_valueOf_33 2 rfl ?_
        refine pz_Vi (As := [.int p2]) hC hK dX3_valueOf_34 py_X3_hasSpouse pv_X3_hasSpouse lk_X3_136 hf (fun _ h => mX3_hasSpouse h) rfl rfl (Nat.le_of_ble_eq_true rfl) ⟨by decide, by decide⟩ ⟨Nat.le_of_ble_eq_true rfl, Nat.le_of_ble_eq_true rfl⟩ (fun x2 hf => ?_)
        refine pz_if_ne hC dX3_valueOf_37 hf (fun _ hf => ?_) (fun _ hf => ?_)
        · refine pz_aload_n hC dX3_valueOf_45 0 rfl ?_
          refine pz_getR hC dX3_valueOf_46 fa_X3_23 hf (fun v3 hf => ?_)
          refine pz_iload_n hC dX3_valueOf_49 2 rfl ?_
          refine pz_aald hC dX3_valueOf_50 (fun _ => rfl) (by decide) hf (fun v4 hf => ?_)
          refine pz_astore_n hC dX3_valueOf_51 (by decide) rfl ?_
          refine pz_iload_n hC dX3_valueOf_52 2 rfl ?_
          refine pz_case (x := p1) (v := (1 : Int32)) hf (fun c53_1 hf => ?_) (fun c53_1 hf => ?_)
          · refine pz_tabI (tgt := 84) hC dX3_valueOf_53 c53_1 (by decide) (by decide) rfl rfl ?_
            refine pz_aload_n hC dX3_valueOf_84 0 rfl ?_
            refine pz_getI hC dX3_valueOf_85 fa_X3_105 hf (fun v5 hf => ?_)
            exact pz_iret hC hK dX3_valueOf_88 hf
          refine pz_case (x := p1) (v := (2 : Int32)) hf (fun c53_2 hf => ?_) (fun c53_2 hf => ?_)
          · refine pz_tabI (tgt := 89) hC dX3_valueOf_53 c53_2 (by decide) (by decide) rfl rfl ?_
            refine pz_aload_n hC dX3_valueOf_89 0 rfl ?_
            refine pz_getI hC dX3_valueOf_90 fa_X3_108 hf (fun v6 hf => ?_)
            exact pz_iret hC hK dX3_valueOf_93 hf
          refine pz_case (x := p1) (v := (3 : Int32)) hf (fun c53_3 hf => ?_) (fun c53_3 hf => ?_)
          · refine pz_tabI (tgt := 94) hC dX3_valueOf_53 c53_3 (by decide) (by decide) rfl rfl ?_
            refine pz_aload_n hC dX3_valueOf_94 0 rfl ?_
            refine pz_getI hC dX3_valueOf_95 fa_X3_111 hf (fun v7 hf => ?_)
            exact pz_iret hC hK dX3_valueOf_98 hf
          refine pz_case (x := p1) (v := (4 : Int32)) hf (fun c53_4 hf => ?_) (fun c53_4 hf => ?_)
          · refine pz_tabI (tgt := 99) hC dX3_valueOf_53 c53_4 (by decide) (by decide) rfl rfl ?_
            refine pz_aload_n hC dX3_valueOf_99 0 rfl ?_
            refine pz_getI hC dX3_valueOf_100 fa_X3_140 hf (fun v8 hf => ?_)
            exact pz_iret hC hK dX3_valueOf_103 hf
          have ec53_1 : ¬ p1.toInt = 1 := lv_neT c53_1 rfl
          have ec53_2 : ¬ p1.toInt = 2 := lv_neT c53_2 rfl
          have ec53_3 : ¬ p1.toInt = 3 := lv_neT c53_3 rfl
          have ec53_4 : ¬ p1.toInt = 4 := lv_neT c53_4 rfl
          refine pz_tabO (tgt := 104) hC dX3_valueOf_53 (by omega) rfl ?_
          refine pz_aload_n hC dX3_valueOf_104 0 rfl ?_
          refine pz_getI hC dX3_valueOf_105 fa_X3_143 hf (fun v9 hf => ?_)
          exact pz_iret hC hK dX3_valueOf_108 hf
        · refine pz_sub [0] rfl ?_
          exact tX3_valueOf_40 hC hK hf
    · refine pz_aload_n hC dX3_valueOf_21 0 rfl ?_
      refine pz_getI hC dX3_valueOf_22 fa_X3_44 hf (fun v10 hf => ?_)
      exact pz_iret hC hK dX3_valueOf_25 hf
  · refine pz_aload_n hC dX3_valueOf_7 0 rfl ?_
    refine pz_getR hC dX3_valueOf_8 fa_X3_9 hf (fun v11 hf => ?_)
    refine pz_iload_n hC dX3_valueOf_11 1 rfl ?_
    refine pz_bipush (v := (10 : Int32)) hC dX3_valueOf_12 (by decide) ?_
    refine pz_isub hC dX3_valueOf_14 ?_
    refine pz_iald hC dX3_valueOf_15 hf (fun v12 hf => ?_)
    exact pz_iret hC hK dX3_valueOf_16 hf
def fX3_finalPay_56 (k11 : Nat → Int32 → Int32 → Int32 → Option Int32) (f : pz_H) (l0 : Nat) (l1 : Int32) (l2 : Int32) (l3 : Int32) (s0 : Int32) : Option Int32 :=
  (pz_gR f l0 2 4).bind fun v1 =>
  (pz_aR f v1 3 l3).bind fun v2 =>
  (pz_gI f v2 5 2).bind fun v3 =>
  k11 l0 ((l1 + s0)) ((l2 + (s0 * v3))) ((l3 + (-1)))
theorem tX3_finalPay_56 {G : pz_G} {C : pz_C} {f : pz_H} {k11 : Nat → Int32 → Int32 → Int32 → Option Int32} {l0 : Nat} {l1 : Int32} {l2 : Int32} {l3 : Int32} {s0 : Int32} {r : Int32} (hC : pz_OK G C cX3_finalPay 7 RX3) (hK : pz_K C (some .int) 0 0 0 0) (hk11 : ∀ (a0 : Nat) (a1 : Int32) (a2 : Int32) (a3 : Int32), k11 a0 a1 a2 a3 = some r → pz_W G C 7 11 [(0, .ref a0), (1, .int a1), (2, .int a2), (3, .int a3)] [] f 0 0 (pz_Q G C (some (.int r)) f 0 0)) (hf : fX3_finalPay_56 k11 f l0 l1 l2 l3 s0 = some r) : pz_W G C 7 56 [(0, .ref l0), (1, .int l1), (2, .int l2), (3, .int l3)] [.int s0] f 0 0 (pz_Q G C (some (.int r)) f 0 0) := by
  unfold fX3_finalPay_56 at hf
  refine pz_istore hC dX3_finalPay_56 (by decide) rfl ?_
  refine pz_iload_n hC dX3_finalPay_58 2 rfl ?_
  refine pz_iload hC dX3_finalPay_59 0 rfl ?_
  refine pz_iadd hC dX3_finalPay_61 ?_
  refine pz_istore_n hC dX3_finalPay_62 (by decide) rfl ?_
  refine pz_iload_n hC dX3_finalPay_63 3 rfl ?_
  refine pz_iload hC dX3_finalPay_64 1 rfl ?_
  refine pz_aload_n hC dX3_finalPay_66 2 rfl ?_
  refine pz_getR hC dX3_finalPay_67 fa_X3_17 hf (fun v1 hf => ?_)
  refine pz_iload_n hC dX3_finalPay_70 4 rfl ?_
  refine pz_aald hC dX3_finalPay_71 (fun _ => rfl) (by decide) hf (fun v2 hf => ?_)
  refine pz_getI hC dX3_finalPay_72 fa_X3_85 hf (fun v3 hf => ?_)
  refine pz_imul hC dX3_finalPay_75 ?_
  refine pz_iadd hC dX3_finalPay_76 ?_
  refine pz_istore_n hC dX3_finalPay_77 (by decide) rfl ?_
  refine pz_iinc (v := (l3 + (-1))) hC dX3_finalPay_78 4 rfl rfl (by decide) rfl ?_
  refine pz_goto hC dX3_finalPay_81 ?_
  refine pz_sub [4, 2, 1, 0] rfl ?_
  exact hk11 _ _ _ _ hf
def fX3_finalPay_95 (f : pz_H) (s0 : Int32) : Option Int32 :=
  some s0
theorem tX3_finalPay_95 {G : pz_G} {C : pz_C} {f : pz_H} {s0 : Int32} {r : Int32} (hC : pz_OK G C cX3_finalPay 7 RX3) (hK : pz_K C (some .int) 0 0 0 0) (hf : fX3_finalPay_95 f s0 = some r) : pz_W G C 7 95 [] [.int s0] f 0 0 (pz_Q G C (some (.int r)) f 0 0) := by
  unfold fX3_finalPay_95 at hf
  exact pz_iret hC hK dX3_finalPay_95 hf
def fX3_finalPay_11b (k11 : Nat → Int32 → Int32 → Int32 → Option Int32) (f : pz_H) (l0 : Nat) (l1 : Int32) (l2 : Int32) (l3 : Int32) : Option Int32 :=
  if l3 < 0 then if l1 = 0 then fX3_finalPay_95 f ((0 : Int32)) else
  if l1 = 0 then none else
  fX3_finalPay_95 f ((l2 / l1)) else
  (pz_gR f l0 2 4).bind fun v1 =>
  (pz_aR f v1 3 l3).bind fun v2 =>
  (pz_gI f v2 5 1).bind fun v3 =>
  (pz_gR f l0 2 4).bind fun v4 =>
  (pz_aR f v4 3 l3).bind fun v5 =>
  (pz_gI f v5 5 0).bind fun v6 =>
  if ((36 : Int32) - l1) ≤ (v3 - v6) then fX3_finalPay_56 k11 f l0 l1 l2 l3 (((36 : Int32) - l1)) else
  fX3_finalPay_56 k11 f l0 l1 l2 l3 ((v3 - v6))
theorem tX3_finalPay_11b {G : pz_G} {C : pz_C} {f : pz_H} {k11 : Nat → Int32 → Int32 → Int32 → Option Int32} {l0 : Nat} {l1 : Int32} {l2 : Int32} {l3 : Int32} {r : Int32} (hC : pz_OK G C cX3_finalPay 7 RX3) (hK : pz_K C (some .int) 0 0 0 0) (hk11 : ∀ (a0 : Nat) (a1 : Int32) (a2 : Int32) (a3 : Int32), k11 a0 a1 a2 a3 = some r → pz_W G C 7 11 [(0, .ref a0), (1, .int a1), (2, .int a2), (3, .int a3)] [] f 0 0 (pz_Q G C (some (.int r)) f 0 0)) (hf : fX3_finalPay_11b k11 f l0 l1 l2 l3 = some r) : pz_W G C 7 11 [(0, .ref l0), (1, .int l1), (2, .int l2), (3, .int l3)] [] f 0 0 (pz_Q G C (some (.int r)) f 0 0) := by
  unfold fX3_finalPay_11b at hf
  refine pz_iload_n hC dX3_finalPay_11 3 rfl ?_
  refine pz_if_lt hC dX3_finalPay_12 hf (fun _ hf => ?_) (fun _ hf => ?_)
  · refine pz_iload_n hC dX3_finalPay_84 1 rfl ?_
    refine pz_if_ne hC dX3_finalPay_85 hf (fun _ hf => ?_) (fun _ hf => ?_)
    · refine pz_iload_n hC dX3_finalPay_92 2 rfl ?_
      refine pz_iload_n hC dX3_finalPay_93 1 rfl ?_
      refine pz_idiv hC dX3_finalPay_94 hf (fun hf => ?_)
      refine pz_sub [] rfl ?_
      exact tX3_finalPay_95 hC hK hf
    · refine pz_iconst (v := (0 : Int32)) hC dX3_finalPay_88 (by decide) ?_
      refine pz_goto hC dX3_finalPay_89 ?_
      refine pz_sub [] rfl ?_
      exact tX3_finalPay_95 hC hK hf
  · refine pz_bipush (v := (36 : Int32)) hC dX3_finalPay_15 (by decide) ?_
    refine pz_iload_n hC dX3_finalPay_17 1 rfl ?_
    refine pz_isub hC dX3_finalPay_18 ?_
    refine pz_istore hC dX3_finalPay_19 (by decide) rfl ?_
    refine pz_aload_n hC dX3_finalPay_21 1 rfl ?_
    refine pz_getR hC dX3_finalPay_22 fa_X3_17 hf (fun v1 hf => ?_)
    refine pz_iload_n hC dX3_finalPay_25 4 rfl ?_
    refine pz_aald hC dX3_finalPay_26 (fun _ => rfl) (by decide) hf (fun v2 hf => ?_)
    refine pz_getI hC dX3_finalPay_27 fa_X3_82 hf (fun v3 hf => ?_)
    refine pz_aload_n hC dX3_finalPay_30 1 rfl ?_
    refine pz_getR hC dX3_finalPay_31 fa_X3_17 hf (fun v4 hf => ?_)
    refine pz_iload_n hC dX3_finalPay_34 4 rfl ?_
    refine pz_aald hC dX3_finalPay_35 (fun _ => rfl) (by decide) hf (fun v5 hf => ?_)
    refine pz_getI hC dX3_finalPay_36 fa_X3_79 hf (fun v6 hf => ?_)
    refine pz_isub hC dX3_finalPay_39 ?_
    refine pz_istore hC dX3_finalPay_40 (by decide) rfl ?_
    refine pz_iload hC dX3_finalPay_42 0 rfl ?_
    refine pz_iload hC dX3_finalPay_44 1 rfl ?_
    refine pz_icmp_ge hC dX3_finalPay_46 hf (fun _ hf => ?_) (fun _ hf => ?_)
    · refine pz_iload hC dX3_finalPay_54 1 rfl ?_
      refine pz_sub [2, 3, 4, 5] rfl ?_
      exact tX3_finalPay_56 hC hK hk11 hf
    · refine pz_iload hC dX3_finalPay_49 0 rfl ?_
      refine pz_goto hC dX3_finalPay_51 ?_
      refine pz_sub [2, 3, 4, 5] rfl ?_
      exact tX3_finalPay_56 hC hK hk11 hf
def fX3_finalPay_11 (f : pz_H) : Nat → Nat → Int32 → Int32 → Int32 → Option Int32
  | 0, _, _, _, _ => none
  | n + 1, l0, l1, l2, l3 => fX3_finalPay_11b (fX3_finalPay_11 f n) f l0 l1 l2 l3
theorem tX3_finalPay_11 {G : pz_G} {C : pz_C} {f : pz_H} {r : Int32} (hC : pz_OK G C cX3_finalPay 7 RX3) (hK : pz_K C (some .int) 0 0 0 0) : ∀ (N : Nat) (l0 : Nat) (l1 : Int32) (l2 : Int32) (l3 : Int32), fX3_finalPay_11 f N l0 l1 l2 l3 = some r → pz_W G C 7 11 [(0, .ref l0), (1, .int l1), (2, .int l2), (3, .int l3)] [] f 0 0 (pz_Q G C (some (.int r)) f 0 0) := by
  intro N
  induction N with
  | zero => intro l0 l1 l2 l3 hf; cases hf
  | succ N ih => intro l0 l1 l2 l3 hf; exact tX3_finalPay_11b hC hK (fun l0 l1 l2 l3 hf => ih l0 l1 l2 l3 hf) hf
def fnX3_finalPay (f : pz_H) (a0 : Nat) : Option Int32 :=
  (pz_is f a0 2).bind fun _ =>
  (pz_gI f a0 2 5).bind fun v1 =>
  fX3_finalPay_11 f pz_F a0 ((0 : Int32)) ((0 : Int32)) ((v1 - (1 : Int32)))
theorem mX3_finalPay {l : Launch} {G : pz_G} {f : pz_H} {a0 : Nat} {r : Int32} (hf : fnX3_finalPay f a0 = some r) : pz_Met l G yX3_finalPay cX3_finalPay 7 (some .int) 0 0 0 0 [.ref a0] f (some (.int r)) f ∧ pz_is f a0 2 = some () := by
  unfold fnX3_finalPay at hf
  obtain ⟨_, h0, hf⟩ := pz_bd hf
  refine ⟨pz_enter (by decide +kernel) (Nat.le_of_ble_eq_true rfl) (fun C hl hC hK hnm => ?_), h0⟩
  subst hl
  refine pz_sub (lv' := [(0, .ref a0)]) [0] rfl ?_
  refine pz_iconst (v := (0 : Int32)) hC dX3_finalPay_0 (by decide) ?_
  refine pz_istore_n hC dX3_finalPay_1 (by decide) rfl ?_
  refine pz_iconst (v := (0 : Int32)) hC dX3_finalPay_2 (by decide) ?_
  refine pz_istore_n hC dX3_finalPay_3 (by decide) rfl ?_
  refine pz_aload_n hC dX3_finalPay_4 2 rfl ?_
  refine pz_getI hC dX3_finalPay_5 fa_X3_53 hf (fun v1 hf => ?_)
  refine pz_iconst (v := (1 : Int32)) hC dX3_finalPay_8 (by decide) ?_
  refine pz_isub hC dX3_finalPay_9 ?_
  refine pz_istore_n hC dX3_finalPay_10 (by decide) rfl ?_
  refine pz_sub [3, 2, 1, 0] rfl ?_
  exact tX3_finalPay_11 hC hK _ _ _ _ _ hf
def fnX3_basePay (f : pz_H) (a0 : Nat) : Option Int32 :=
  (pz_is f a0 2).bind fun _ =>
  (fnX3_finalPay f a0).bind fun x1 =>
  (pz_gR f a0 2 3).bind fun v2 =>
  (pz_aI f v2 0 ((0 : Int32))).bind fun v3 =>
  (pz_gI f a0 2 6).bind fun v4 =>
  some (((((x1.toInt64 * v3.toInt64) * v4.toInt64) / (120000 : Int64))).toInt32)
theorem mX3_basePay {l : Launch} {G : pz_G} {f : pz_H} {a0 : Nat} {r : Int32} (hf : fnX3_basePay f a0 = some r) : pz_Met l G yX3_basePay cX3_basePay 1 (some .int) 1 26 0 0 [.ref a0] f (some (.int r)) f ∧ pz_is f a0 2 = some () := by
  unfold fnX3_basePay at hf
  obtain ⟨_, h0, hf⟩ := pz_bd hf
  refine ⟨pz_enter (by decide +kernel) (Nat.le_of_ble_eq_true rfl) (fun C hl hC hK hnm => ?_), h0⟩
  subst hl
  refine pz_sub (lv' := [(0, .ref a0)]) [0] rfl ?_
  refine pz_aload_n hC dX3_basePay_0 0 rfl ?_
  refine pz_Vi (As := []) hC hK dX3_basePay_1 py_X3_finalPay pv_X3_finalPay lk_X3_149 hf (fun _ h => mX3_finalPay h) rfl rfl (Nat.le_of_ble_eq_true rfl) ⟨by decide, by decide⟩ ⟨Nat.le_of_ble_eq_true rfl, Nat.le_of_ble_eq_true rfl⟩ (fun x1 hf => ?_)
  refine pz_i2l hC dX3_basePay_4 ?_
  refine pz_aload_n hC dX3_basePay_5 0 rfl ?_
  refine pz_getR hC dX3_basePay_6 fa_X3_9 hf (fun v2 hf => ?_)
  refine pz_iconst (v := (0 : Int32)) hC dX3_basePay_9 (by decide) ?_
  refine pz_iald hC dX3_basePay_10 hf (fun v3 hf => ?_)
  refine pz_i2l hC dX3_basePay_11 ?_
  refine pz_lmul hC dX3_basePay_12 ?_
  refine pz_aload_n hC dX3_basePay_13 0 rfl ?_
  refine pz_getI hC dX3_basePay_14 fa_X3_56 hf (fun v4 hf => ?_)
  refine pz_i2l hC dX3_basePay_17 ?_
  refine pz_lmul hC dX3_basePay_18 ?_
  refine pz_ldc2 hC dX3_basePay_19 ck_X3_152 ?_
  refine pz_ldivc hC dX3_basePay_22 (by decide) ?_
  refine pz_l2i hC dX3_basePay_23 ?_
  exact pz_iret hC hK dX3_basePay_24 hf
def fnX3_firstPay (f : pz_H) (a0 : Nat) : Option Int32 :=
  (pz_is f a0 2).bind fun _ =>
  (pz_gI f a0 2 1).bind fun v1 =>
  if v1 = ((-1) : Int32) then some ((0 : Int32)) else
  (pz_gR f a0 2 3).bind fun v2 =>
  (pz_aI f v2 0 ((1 : Int32))).bind fun v3 =>
  (pz_gI f a0 2 1).bind fun v4 =>
  (pz_gI f a0 2 0).bind fun v5 =>
  (pz_gR f a0 2 3).bind fun v6 =>
  (pz_aI f v6 0 ((2 : Int32))).bind fun v7 =>
  (fnX3_basePay f a0).bind fun x8 =>
  some ((((x8.toInt64 * ((if (0 : Int32) < ((1000 : Int32) - (v7 * (if (0 : Int32) < (v3 - (v4 - v5)) then (v3 - (v4 - v5)) else (0 : Int32)))) then ((1000 : Int32) - (v7 * (if (0 : Int32) < (v3 - (v4 - v5)) then (v3 - (v4 - v5)) else (0 : Int32)))) else (0 : Int32))).toInt64) / (1000 : Int64))).toInt32)
theorem mX3_firstPay {l : Launch} {G : pz_G} {f : pz_H} {a0 : Nat} {r : Int32} (hf : fnX3_firstPay f a0 = some r) : pz_Met l G yX3_firstPay cX3_firstPay 3 (some .int) 2 46 0 0 [.ref a0] f (some (.int r)) f ∧ pz_is f a0 2 = some () := by
  unfold fnX3_firstPay at hf
  obtain ⟨_, h0, hf⟩ := pz_bd hf
  refine ⟨pz_enter (by decide +kernel) (Nat.le_of_ble_eq_true rfl) (fun C hl hC hK hnm => ?_), h0⟩
  subst hl
  refine pz_sub (lv' := [(0, .ref a0)]) [0] rfl ?_
  refine pz_aload_n hC dX3_firstPay_0 0 rfl ?_
  refine pz_getI hC dX3_firstPay_1 fa_X3_44 hf (fun v1 hf => ?_)
  refine pz_iconst (v := ((-1) : Int32)) hC dX3_firstPay_4 (by decide) ?_
  refine pz_icmp_ne hC dX3_firstPay_5 hf (fun _ hf => ?_) (fun _ hf => ?_)
  · refine pz_iconst (v := (0 : Int32)) hC dX3_firstPay_10 (by decide) ?_
    refine pz_aload_n hC dX3_firstPay_11 0 rfl ?_
    refine pz_getR hC dX3_firstPay_12 fa_X3_9 hf (fun v2 hf => ?_)
    refine pz_iconst (v := (1 : Int32)) hC dX3_firstPay_15 (by decide) ?_
    refine pz_iald hC dX3_firstPay_16 hf (fun v3 hf => ?_)
    refine pz_aload_n hC dX3_firstPay_17 0 rfl ?_
    refine pz_getI hC dX3_firstPay_18 fa_X3_44 hf (fun v4 hf => ?_)
    refine pz_aload_n hC dX3_firstPay_21 0 rfl ?_
    refine pz_getI hC dX3_firstPay_22 fa_X3_40 hf (fun v5 hf => ?_)
    refine pz_isub hC dX3_firstPay_25 ?_
    refine pz_isub hC dX3_firstPay_26 ?_
    refine pz_mmax hC hK dX3_firstPay_27 mk_X3_154 ms_max mi_math mc_max (by decide) (Nat.le_of_ble_eq_true rfl) ⟨by decide, by decide⟩ ?_
    refine pz_istore_n hC dX3_firstPay_30 (by decide) rfl ?_
    refine pz_iconst (v := (0 : Int32)) hC dX3_firstPay_31 (by decide) ?_
    refine pz_sipush (v := (1000 : Int32)) hC dX3_firstPay_32 (by decide) ?_
    refine pz_aload_n hC dX3_firstPay_35 1 rfl ?_
    refine pz_getR hC dX3_firstPay_36 fa_X3_9 hf (fun v6 hf => ?_)
    refine pz_iconst (v := (2 : Int32)) hC dX3_firstPay_39 (by decide) ?_
    refine pz_iald hC dX3_firstPay_40 hf (fun v7 hf => ?_)
    refine pz_iload_n hC dX3_firstPay_41 0 rfl ?_
    refine pz_imul hC dX3_firstPay_42 ?_
    refine pz_isub hC dX3_firstPay_43 ?_
    refine pz_mmax hC hK dX3_firstPay_44 mk_X3_154 ms_max mi_math mc_max (by decide) (Nat.le_of_ble_eq_true rfl) ⟨by decide, by decide⟩ ?_
    refine pz_istore_n hC dX3_firstPay_47 (by decide) rfl ?_
    refine pz_aload_n hC dX3_firstPay_48 2 rfl ?_
    refine pz_Vi (As := []) hC hK dX3_firstPay_49 py_X3_basePay pv_X3_basePay lk_X3_159 hf (fun _ h => mX3_basePay h) rfl rfl (Nat.le_of_ble_eq_true rfl) ⟨by decide, by decide⟩ ⟨Nat.le_of_ble_eq_true rfl, Nat.le_of_ble_eq_true rfl⟩ (fun x8 hf => ?_)
    refine pz_i2l hC dX3_firstPay_52 ?_
    refine pz_iload_n hC dX3_firstPay_53 0 rfl ?_
    refine pz_i2l hC dX3_firstPay_54 ?_
    refine pz_lmul hC dX3_firstPay_55 ?_
    refine pz_ldc2 hC dX3_firstPay_56 ck_X3_162 ?_
    refine pz_ldivc hC dX3_firstPay_59 (by decide) ?_
    refine pz_l2i hC dX3_firstPay_60 ?_
    exact pz_iret hC hK dX3_firstPay_61 hf
  · refine pz_iconst (v := (0 : Int32)) hC dX3_firstPay_8 (by decide) ?_
    exact pz_iret hC hK dX3_firstPay_9 hf
def fnX3_shareOf (f : pz_H) (a0 : Nat) (p1 : Nat) (p2 : Int32) : Option Int64 :=
  (pz_is f a0 2).bind fun _ =>
  (pz_gI f a0 2 6).bind fun v1 =>
  if v1 = 0 then some ((0 : Int64)) else
  (pz_gI f p1 6 3).bind fun v2 =>
  (pz_gI f p1 6 8).bind fun v3 =>
  (pz_gI f a0 2 6).bind fun v4 =>
  if ((1000 : Int64) * v4.toInt64) = 0 then none else
  some ((((p2.toInt64 * v2.toInt64) * v3.toInt64) / ((1000 : Int64) * v4.toInt64)))
theorem mX3_shareOf {l : Launch} {G : pz_G} {f : pz_H} {a0 : Nat} {p1 : Nat} {p2 : Int32} {r : Int64} (hf : fnX3_shareOf f a0 p1 p2 = some r) : pz_Met l G yX3_shareOf cX3_shareOf 3 (some .long) 0 0 0 0 [.ref a0, .ref p1, .int p2] f (some (.long r)) f ∧ pz_is f a0 2 = some () := by
  unfold fnX3_shareOf at hf
  obtain ⟨_, h0, hf⟩ := pz_bd hf
  refine ⟨pz_enter (by decide +kernel) (Nat.le_of_ble_eq_true rfl) (fun C hl hC hK hnm => ?_), h0⟩
  subst hl
  refine pz_sub (lv' := [(0, .ref a0), (1, .ref p1), (2, .int p2)]) [0, 1, 2] rfl ?_
  refine pz_aload_n hC dX3_shareOf_0 0 rfl ?_
  refine pz_getI hC dX3_shareOf_1 fa_X3_56 hf (fun v1 hf => ?_)
  refine pz_if_ne hC dX3_shareOf_4 hf (fun _ hf => ?_) (fun _ hf => ?_)
  · refine pz_iload_n hC dX3_shareOf_9 2 rfl ?_
    refine pz_i2l hC dX3_shareOf_10 ?_
    refine pz_aload_n hC dX3_shareOf_11 1 rfl ?_
    refine pz_getI hC dX3_shareOf_12 fa_X3_105 hf (fun v2 hf => ?_)
    refine pz_i2l hC dX3_shareOf_15 ?_
    refine pz_lmul hC dX3_shareOf_16 ?_
    refine pz_aload_n hC dX3_shareOf_17 1 rfl ?_
    refine pz_getI hC dX3_shareOf_18 fa_X3_148 hf (fun v3 hf => ?_)
    refine pz_i2l hC dX3_shareOf_21 ?_
    refine pz_lmul hC dX3_shareOf_22 ?_
    refine pz_ldc2 hC dX3_shareOf_23 ck_X3_162 ?_
    refine pz_aload_n hC dX3_shareOf_26 0 rfl ?_
    refine pz_getI hC dX3_shareOf_27 fa_X3_56 hf (fun v4 hf => ?_)
    refine pz_i2l hC dX3_shareOf_30 ?_
    refine pz_lmul hC dX3_shareOf_31 ?_
    refine pz_ldiv hC dX3_shareOf_32 hf (fun hf => ?_)
    exact pz_lret hC hK dX3_shareOf_33 hf
  · refine pz_lconst (v := 0) hC dX3_shareOf_7 (by decide) ?_
    exact pz_lret hC hK dX3_shareOf_8 hf
def fnX4_init (f : pz_H) (a0 : Nat) : Option pz_H :=
  (pz_sV (pz_nw f (.inr (2, 400, .inl (fun _ => 0)))) a0 3 0 (.ref f.2.2)).bind fun f1 =>
  (pz_sV f1 a0 3 1 (.int (0 : Int32))).bind fun f2 =>
  (pz_sV (pz_nw f2 (.inr (0, 4, .inl (fun _ => 0)))) a0 3 6 (.ref f2.2.2)).bind fun f3 =>
  some f3
theorem mX4_init {l : Launch} {G : pz_G} {f : pz_H} {a0 : Nat} {r : pz_H} (hf : fnX4_init f a0 = some r) : pz_Met l G yX4_init cX4_init 1 none 1 20 2 404 [.ref a0] f none r := by
  unfold fnX4_init at hf
  refine pz_enter (by decide +kernel) (Nat.le_of_ble_eq_true rfl) (fun C hl hC hK hnm => ?_)
  subst hl
  refine pz_sub (lv' := [(0, .ref a0)]) [0] rfl ?_
  refine pz_aload_n hC dX4_init_0 0 rfl ?_
  refine pz_objInit hC hK dX4_init_1 ol_X4_3 ob_inst ob_code (by decide) (Nat.le_of_ble_eq_true rfl) ?_
  refine pz_aload_n hC dX4_init_4 0 rfl ?_
  refine pz_sipush (v := (400 : Int32)) hC dX4_init_5 (by decide) ?_
  refine pz_newa (atype := .byte) (ty := .byte) (t := 2) (N := 400) (g := .inl (fun _ => 0)) (n' := 1) (k' := 400) hC hK dX4_init_8 (by decide) ac_2 rfl (fun G U h => (h.2 2 _ rfl).2) (fun G cA h => ⟨(400, .inl (fun _ => 0)), by rw [h]; rfl, rfl⟩) (by decide) (by decide +kernel) (by decide +kernel) rfl rfl ⟨Nat.le_of_ble_eq_true rfl, Nat.le_of_ble_eq_true rfl⟩ ?_
  refine pz_putF hC hnm dX4_init_10 fp_X4_9 (fun q h => by cases h; rfl) rfl rfl rfl hf (fun f1 hf => ?_)
  refine pz_aload_n hC dX4_init_13 0 rfl ?_
  refine pz_iconst (v := (0 : Int32)) hC dX4_init_14 (by decide) ?_
  refine pz_putV hC dX4_init_15 fp_X4_15 rfl rfl hf (fun f2 hf => ?_)
  refine pz_aload_n hC dX4_init_18 0 rfl ?_
  refine pz_iconst (v := (4 : Int32)) hC dX4_init_19 (by decide) ?_
  refine pz_newa (atype := .int) (ty := .int) (t := 0) (N := 4) (g := .inl (fun _ => 0)) (n' := 2) (k' := 404) hC hK dX4_init_20 (by decide) ac_0 rfl (fun G U h => (h.2 0 _ rfl).2) (fun G cA h => ⟨(4, .inl (fun _ => 0)), by rw [h]; rfl, rfl⟩) (by decide) (by decide +kernel) (by decide +kernel) rfl rfl ⟨Nat.le_of_ble_eq_true rfl, Nat.le_of_ble_eq_true rfl⟩ ?_
  refine pz_putF hC hnm dX4_init_22 fp_X4_19 (fun q h => by cases h; rfl) rfl rfl rfl hf (fun f3 hf => ?_)
  exact pz_vret hC hK dX4_init_25 hf
def fX4_append_40 (k3 : pz_H → Nat → Int32 → Int32 → Option pz_H) (f : pz_H) (l0 : Nat) (l1 : Int32) (l2 : Int32) : Option pz_H :=
  k3 f l0 l1 ((l2 + (-8)))
theorem tX4_append_40 {G : pz_G} {C : pz_C} {f : pz_H} {k3 : pz_H → Nat → Int32 → Int32 → Option pz_H} {l0 : Nat} {l1 : Int32} {l2 : Int32} {r : pz_H} (hC : pz_OK G C cX4_append 3 RX4) (hK : pz_K C none 0 0 0 0) (hk3 : ∀ (g : pz_H) (a0 : Nat) (a1 : Int32) (a2 : Int32), k3 g a0 a1 a2 = some r → pz_W G C 3 3 [(0, .ref a0), (1, .int a1), (2, .int a2)] [] g 0 0 (pz_Q G C none r 0 0)) (hf : fX4_append_40 k3 f l0 l1 l2 = some r) : pz_W G C 3 40 [(0, .ref l0), (1, .int l1), (2, .int l2)] [] f 0 0 (pz_Q G C none r 0 0) := by
  unfold fX4_append_40 at hf
  refine pz_iinc (v := (l2 + (-8))) hC dX4_append_40 2 rfl rfl (by decide) rfl ?_
  refine pz_goto hC dX4_append_43 ?_
  refine pz_sub [1, 2, 0] rfl ?_
  exact hk3 _ _ _ _ hf
def fX4_append_3b (k3 : pz_H → Nat → Int32 → Int32 → Option pz_H) (f : pz_H) (l0 : Nat) (l1 : Int32) (l2 : Int32) : Option pz_H :=
  if l2 < 0 then some f else
  (pz_gI f l0 3 1).bind fun v1 =>
  if (400 : Int32) ≤ v1 then fX4_append_40 k3 f l0 l1 l2 else
  (pz_gR f l0 3 0).bind fun v2 =>
  (pz_gI f l0 3 1).bind fun v3 =>
  (pz_tI f v2 2 v3 (((l1.toUInt32 >>> (l2.toUInt32 &&& Int32.toUInt32 31)).toInt32).toInt8.toInt32)).bind fun f4 =>
  (pz_gI f4 l0 3 1).bind fun v5 =>
  (pz_sV f4 l0 3 1 (.int (v5 + (1 : Int32)))).bind fun f6 =>
  fX4_append_40 k3 f6 l0 l1 l2
theorem tX4_append_3b {G : pz_G} {C : pz_C} {f : pz_H} {k3 : pz_H → Nat → Int32 → Int32 → Option pz_H} {l0 : Nat} {l1 : Int32} {l2 : Int32} {r : pz_H} (hC : pz_OK G C cX4_append 3 RX4) (hK : pz_K C none 0 0 0 0) (hk3 : ∀ (g : pz_H) (a0 : Nat) (a1 : Int32) (a2 : Int32), k3 g a0 a1 a2 = some r → pz_W G C 3 3 [(0, .ref a0), (1, .int a1), (2, .int a2)] [] g 0 0 (pz_Q G C none r 0 0)) (hf : fX4_append_3b k3 f l0 l1 l2 = some r) : pz_W G C 3 3 [(0, .ref l0), (1, .int l1), (2, .int l2)] [] f 0 0 (pz_Q G C none r 0 0) := by
  unfold fX4_append_3b at hf
  refine pz_iload_n hC dX4_append_3 2 rfl ?_
  refine pz_if_lt hC dX4_append_4 hf (fun _ hf => ?_) (fun _ hf => ?_)
  · exact pz_vret hC hK dX4_append_46 hf
  · refine pz_aload_n hC dX4_append_7 0 rfl ?_
    refine pz_getI hC dX4_append_8 fa_X4_15 hf (fun v1 hf => ?_)
    refine pz_sipush (v := (400 : Int32)) hC dX4_append_11 (by decide) ?_
    refine pz_icmp_ge hC dX4_append_14 hf (fun _ hf => ?_) (fun _ hf => ?_)
    · exact tX4_append_40 hC hK hk3 hf
    · refine pz_aload_n hC dX4_append_17 0 rfl ?_
      refine pz_getR hC dX4_append_18 fa_X4_9 hf (fun v2 hf => ?_)
      refine pz_aload_n hC dX4_append_21 0 rfl ?_
      refine pz_getI hC dX4_append_22 fa_X4_15 hf (fun v3 hf => ?_)
      refine pz_iload_n hC dX4_append_25 1 rfl ?_
      refine pz_iload_n hC dX4_append_26 2 rfl ?_
      refine pz_iushr hC dX4_append_27 ?_
      refine pz_i2b hC dX4_append_28 ?_
      refine pz_bast hC dX4_append_29 (pk_nb _) hf (fun f4 hf => ?_)
      refine pz_aload_n hC dX4_append_30 0 rfl ?_
      refine pz_dup hC dX4_append_31 rfl ?_
      refine pz_getI hC dX4_append_32 fa_X4_15 hf (fun v5 hf => ?_)
      refine pz_iconst (v := (1 : Int32)) hC dX4_append_35 (by decide) ?_
      refine pz_iadd hC dX4_append_36 ?_
      refine pz_putV hC dX4_append_37 fp_X4_15 rfl rfl hf (fun f6 hf => ?_)
      exact tX4_append_40 hC hK hk3 hf
def fX4_append_3 : Nat → pz_H → Nat → Int32 → Int32 → Option pz_H
  | 0, _, _, _, _ => none
  | n + 1, f, l0, l1, l2 => fX4_append_3b (fX4_append_3 n) f l0 l1 l2
theorem tX4_append_3 {G : pz_G} {C : pz_C} {r : pz_H} (hC : pz_OK G C cX4_append 3 RX4) (hK : pz_K C none 0 0 0 0) : ∀ (N : Nat) (f : pz_H) (l0 : Nat) (l1 : Int32) (l2 : Int32), fX4_append_3 N f l0 l1 l2 = some r → pz_W G C 3 3 [(0, .ref l0), (1, .int l1), (2, .int l2)] [] f 0 0 (pz_Q G C none r 0 0) := by
  intro N
  induction N with
  | zero => intro f l0 l1 l2 hf; cases hf
  | succ N ih => intro f l0 l1 l2 hf; exact tX4_append_3b hC hK (fun f l0 l1 l2 hf => ih f l0 l1 l2 hf) hf
def fnX4_append (f : pz_H) (a0 : Nat) (p1 : Int32) : Option pz_H :=
  (pz_is f a0 3).bind fun _ =>
  fX4_append_3 pz_F f a0 p1 ((24 : Int32))
theorem mX4_append {l : Launch} {G : pz_G} {f : pz_H} {a0 : Nat} {p1 : Int32} {r : pz_H} (hf : fnX4_append f a0 p1 = some r) : pz_Met l G yX4_append cX4_append 3 none 0 0 0 0 [.ref a0, .int p1] f none r ∧ pz_is f a0 3 = some () := by
  unfold fnX4_append at hf
  obtain ⟨_, h0, hf⟩ := pz_bd hf
  refine ⟨pz_enter (by decide +kernel) (Nat.le_of_ble_eq_true rfl) (fun C hl hC hK hnm => ?_), h0⟩
  subst hl
  refine pz_sub (lv' := [(0, .ref a0), (1, .int p1)]) [0, 1] rfl ?_
  refine pz_bipush (v := (24 : Int32)) hC dX4_append_0 (by decide) ?_
  refine pz_istore_n hC dX4_append_2 (by decide) rfl ?_
  refine pz_sub [1, 2, 0] rfl ?_
  exact tX4_append_3 hC hK _ _ _ _ _ hf
def fnX4_blame (f : pz_H) (a0 : Nat) (p1 : Int32) (p2 : Int32) : Option pz_H :=
  (pz_is f a0 3).bind fun _ =>
  (pz_sV f a0 3 7 (.int (p1 + ((8 : Int32) * p2)))).bind fun f1 =>
  some f1
theorem mX4_blame {l : Launch} {G : pz_G} {f : pz_H} {a0 : Nat} {p1 : Int32} {p2 : Int32} {r : pz_H} (hf : fnX4_blame f a0 p1 p2 = some r) : pz_Met l G yX4_blame cX4_blame 3 none 0 0 0 0 [.ref a0, .int p1, .int p2] f none r ∧ pz_is f a0 3 = some () := by
  unfold fnX4_blame at hf
  obtain ⟨_, h0, hf⟩ := pz_bd hf
  refine ⟨pz_enter (by decide +kernel) (Nat.le_of_ble_eq_true rfl) (fun C hl hC hK hnm => ?_), h0⟩
  subst hl
  refine pz_sub (lv' := [(0, .ref a0), (1, .int p1), (2, .int p2)]) [0, 1, 2] rfl ?_
  refine pz_aload_n hC dX4_blame_0 0 rfl ?_
  refine pz_iload_n hC dX4_blame_1 1 rfl ?_
  refine pz_bipush (v := (8 : Int32)) hC dX4_blame_2 (by decide) ?_
  refine pz_iload_n hC dX4_blame_4 2 rfl ?_
  refine pz_imul hC dX4_blame_5 ?_
  refine pz_iadd hC dX4_blame_6 ?_
  refine pz_putV hC dX4_blame_7 fp_X4_26 rfl rfl hf (fun f1 hf => ?_)
  exact pz_vret hC hK dX4_blame_10 hf
def fX4_byteAt_26 (f : pz_H) (s0 : Int32) : Option Int32 :=
  some s0
theorem tX4_byteAt_26 {G : pz_G} {C : pz_C} {f : pz_H} {s0 : Int32} {r : Int32} (hC : pz_OK G C cX4_byteAt 2 RX4) (hK : pz_K C (some .int) 0 0 0 0) (hf : fX4_byteAt_26 f s0 = some r) : pz_W G C 2 26 [] [.int s0] f 0 0 (pz_Q G C (some (.int r)) f 0 0) := by
  unfold fX4_byteAt_26 at hf
  exact pz_iret hC hK dX4_byteAt_26 hf
def fX4_byteAt_25 (f : pz_H) : Option Int32 :=
  fX4_byteAt_26 f ((0 : Int32))
theorem tX4_byteAt_25 {G : pz_G} {C : pz_C} {f : pz_H} {r : Int32} (hC : pz_OK G C cX4_byteAt 2 RX4) (hK : pz_K C (some .int) 0 0 0 0) (hf : fX4_byteAt_25 f = some r) : pz_W G C 2 25 [] [] f 0 0 (pz_Q G C (some (.int r)) f 0 0) := by
  unfold fX4_byteAt_25 at hf
  refine pz_iconst (v := (0 : Int32)) hC dX4_byteAt_25 (by decide) ?_
  exact tX4_byteAt_26 hC hK hf
def fnX4_byteAt (f : pz_H) (a0 : Nat) (p1 : Int32) : Option Int32 :=
  (pz_is f a0 3).bind fun _ =>
  if p1 < 0 then fX4_byteAt_25 f else
  (pz_gI f a0 3 1).bind fun v1 =>
  if v1 ≤ p1 then fX4_byteAt_25 f else
  (pz_gR f a0 3 0).bind fun v2 =>
  (pz_aI f v2 2 p1).bind fun v3 =>
  fX4_byteAt_26 f ((v3 &&& (255 : Int32)))
theorem mX4_byteAt {l : Launch} {G : pz_G} {f : pz_H} {a0 : Nat} {p1 : Int32} {r : Int32} (hf : fnX4_byteAt f a0 p1 = some r) : pz_Met l G yX4_byteAt cX4_byteAt 2 (some .int) 0 0 0 0 [.ref a0, .int p1] f (some (.int r)) f ∧ pz_is f a0 3 = some () := by
  unfold fnX4_byteAt at hf
  obtain ⟨_, h0, hf⟩ := pz_bd hf
  refine ⟨pz_enter (by decide +kernel) (Nat.le_of_ble_eq_true rfl) (fun C hl hC hK hnm => ?_), h0⟩
  subst hl
  refine pz_sub (lv' := [(0, .ref a0), (1, .int p1)]) [0, 1] rfl ?_
  refine pz_iload_n hC dX4_byteAt_0 1 rfl ?_
  refine pz_if_lt hC dX4_byteAt_1 hf (fun _ hf => ?_) (fun _ hf => ?_)
  · refine pz_sub [] rfl ?_
    exact tX4_byteAt_25 hC hK hf
  · refine pz_iload_n hC dX4_byteAt_4 1 rfl ?_
    refine pz_aload_n hC dX4_byteAt_5 0 rfl ?_
    refine pz_getI hC dX4_byteAt_6 fa_X4_15 hf (fun v1 hf => ?_)
    refine pz_icmp_ge hC dX4_byteAt_9 hf (fun _ hf => ?_) (fun _ hf => ?_)
    · refine pz_sub [] rfl ?_
      exact tX4_byteAt_25 hC hK hf
    · refine pz_aload_n hC dX4_byteAt_12 0 rfl ?_
      refine pz_getR hC dX4_byteAt_13 fa_X4_9 hf (fun v2 hf => ?_)
      refine pz_iload_n hC dX4_byteAt_16 1 rfl ?_
      refine pz_bald hC dX4_byteAt_17 hf (fun v3 hf => ?_)
      refine pz_sipush (v := (255 : Int32)) hC dX4_byteAt_18 (by decide) ?_
      refine pz_iand hC dX4_byteAt_21 ?_
      refine pz_goto hC dX4_byteAt_22 ?_
      refine pz_sub [] rfl ?_
      exact tX4_byteAt_26 hC hK hf
def fX4_isDigit_17 (s0 : Int32) : Option Int32 :=
  pz_b s0
theorem tX4_isDigit_17 {G : pz_G} {C : pz_C} {f : pz_H} {s0 : Int32} {r : Int32} (hC : pz_OK G C cX4_isDigit 1 RX4) (hK : pz_K C (some .boolean) 0 0 0 0) (hf : fX4_isDigit_17 s0 = some r) : pz_W G C 1 17 [] [.int s0] f 0 0 (pz_Q G C (some (.int r)) f 0 0) := by
  unfold fX4_isDigit_17 at hf
  exact pz_zret hC hK dX4_isDigit_17 hf
def fX4_isDigit_16 : Option Int32 :=
  fX4_isDigit_17 ((0 : Int32))
theorem tX4_isDigit_16 {G : pz_G} {C : pz_C} {f : pz_H} {r : Int32} (hC : pz_OK G C cX4_isDigit 1 RX4) (hK : pz_K C (some .boolean) 0 0 0 0) (hf : fX4_isDigit_16 = some r) : pz_W G C 1 16 [] [] f 0 0 (pz_Q G C (some (.int r)) f 0 0) := by
  unfold fX4_isDigit_16 at hf
  refine pz_iconst (v := (0 : Int32)) hC dX4_isDigit_16 (by decide) ?_
  exact tX4_isDigit_17 hC hK hf
def fnX4_isDigit (p0 : Int32) : Option Int32 :=
  if p0 < (48 : Int32) then fX4_isDigit_16 else
  if (57 : Int32) < p0 then fX4_isDigit_16 else
  fX4_isDigit_17 ((1 : Int32))
theorem mX4_isDigit {l : Launch} {G : pz_G} {f : pz_H} {p0 : Int32} {r : Int32} (hf : fnX4_isDigit p0 = some r) : pz_Met l G yX4_isDigit cX4_isDigit 1 (some .boolean) 0 0 0 0 [.int p0] f (some (.int r)) f := by
  unfold fnX4_isDigit at hf
  refine pz_enter (by decide +kernel) (Nat.le_of_ble_eq_true rfl) (fun C hl hC hK hnm => ?_)
  subst hl
  refine pz_sub (lv' := [(0, .int p0)]) [0] rfl ?_
  refine pz_iload_n hC dX4_isDigit_0 0 rfl ?_
  refine pz_bipush (v := (48 : Int32)) hC dX4_isDigit_1 (by decide) ?_
  refine pz_icmp_lt hC dX4_isDigit_3 hf (fun _ hf => ?_) (fun _ hf => ?_)
  · refine pz_sub [] rfl ?_
    exact tX4_isDigit_16 hC hK hf
  · refine pz_iload_n hC dX4_isDigit_6 0 rfl ?_
    refine pz_bipush (v := (57 : Int32)) hC dX4_isDigit_7 (by decide) ?_
    refine pz_icmp_gt hC dX4_isDigit_9 hf (fun _ hf => ?_) (fun _ hf => ?_)
    · refine pz_sub [] rfl ?_
      exact tX4_isDigit_16 hC hK hf
    · refine pz_iconst (v := (1 : Int32)) hC dX4_isDigit_12 (by decide) ?_
      refine pz_goto hC dX4_isDigit_13 ?_
      refine pz_sub [] rfl ?_
      exact tX4_isDigit_17 hC hK hf
def fX4_isLetter_17 (s0 : Int32) : Option Int32 :=
  pz_b s0
theorem tX4_isLetter_17 {G : pz_G} {C : pz_C} {f : pz_H} {s0 : Int32} {r : Int32} (hC : pz_OK G C cX4_isLetter 1 RX4) (hK : pz_K C (some .boolean) 0 0 0 0) (hf : fX4_isLetter_17 s0 = some r) : pz_W G C 1 17 [] [.int s0] f 0 0 (pz_Q G C (some (.int r)) f 0 0) := by
  unfold fX4_isLetter_17 at hf
  exact pz_zret hC hK dX4_isLetter_17 hf
def fX4_isLetter_16 : Option Int32 :=
  fX4_isLetter_17 ((0 : Int32))
theorem tX4_isLetter_16 {G : pz_G} {C : pz_C} {f : pz_H} {r : Int32} (hC : pz_OK G C cX4_isLetter 1 RX4) (hK : pz_K C (some .boolean) 0 0 0 0) (hf : fX4_isLetter_16 = some r) : pz_W G C 1 16 [] [] f 0 0 (pz_Q G C (some (.int r)) f 0 0) := by
  unfold fX4_isLetter_16 at hf
  refine pz_iconst (v := (0 : Int32)) hC dX4_isLetter_16 (by decide) ?_
  exact tX4_isLetter_17 hC hK hf
def fnX4_isLetter (p0 : Int32) : Option Int32 :=
  if p0 < (97 : Int32) then fX4_isLetter_16 else
  if (122 : Int32) < p0 then fX4_isLetter_16 else
  fX4_isLetter_17 ((1 : Int32))
theorem mX4_isLetter {l : Launch} {G : pz_G} {f : pz_H} {p0 : Int32} {r : Int32} (hf : fnX4_isLetter p0 = some r) : pz_Met l G yX4_isLetter cX4_isLetter 1 (some .boolean) 0 0 0 0 [.int p0] f (some (.int r)) f := by
  unfold fnX4_isLetter at hf
  refine pz_enter (by decide +kernel) (Nat.le_of_ble_eq_true rfl) (fun C hl hC hK hnm => ?_)
  subst hl
  refine pz_sub (lv' := [(0, .int p0)]) [0] rfl ?_
  refine pz_iload_n hC dX4_isLetter_0 0 rfl ?_
  refine pz_bipush (v := (97 : Int32)) hC dX4_isLetter_1 (by decide) ?_
  refine pz_icmp_lt hC dX4_isLetter_3 hf (fun _ hf => ?_) (fun _ hf => ?_)
  · refine pz_sub [] rfl ?_
    exact tX4_isLetter_16 hC hK hf
  · refine pz_iload_n hC dX4_isLetter_6 0 rfl ?_
    refine pz_bipush (v := (122 : Int32)) hC dX4_isLetter_7 (by decide) ?_
    refine pz_icmp_gt hC dX4_isLetter_9 hf (fun _ hf => ?_) (fun _ hf => ?_)
    · refine pz_sub [] rfl ?_
      exact tX4_isLetter_16 hC hK hf
    · refine pz_iconst (v := (1 : Int32)) hC dX4_isLetter_12 (by decide) ?_
      refine pz_goto hC dX4_isLetter_13 ?_
      refine pz_sub [] rfl ?_
      exact tX4_isLetter_17 hC hK hf
def fX4_readNumber_67 (k5 : pz_H → Nat → Option pz_H) (f : pz_H) (l0 : Nat) : Option pz_H :=
  (pz_gI f l0 3 2).bind fun v1 =>
  (pz_sV f l0 3 2 (.int (v1 + (1 : Int32)))).bind fun f2 =>
  k5 f2 l0
theorem tX4_readNumber_67 {G : pz_G} {C : pz_C} {f : pz_H} {k5 : pz_H → Nat → Option pz_H} {l0 : Nat} {r : pz_H} (hC : pz_OK G C cX4_readNumber 1 RX4) (hK : pz_K C none 1 21 0 0) (hk5 : ∀ (g : pz_H) (a0 : Nat), k5 g a0 = some r → pz_W G C 1 5 [(0, .ref a0)] [] g 0 0 (pz_Q G C none r 0 0)) (hf : fX4_readNumber_67 k5 f l0 = some r) : pz_W G C 1 67 [(0, .ref l0)] [] f 0 0 (pz_Q G C none r 0 0) := by
  unfold fX4_readNumber_67 at hf
  refine pz_aload_n hC dX4_readNumber_67 0 rfl ?_
  refine pz_dup hC dX4_readNumber_68 rfl ?_
  refine pz_getI hC dX4_readNumber_69 fa_X4_23 hf (fun v1 hf => ?_)
  refine pz_iconst (v := (1 : Int32)) hC dX4_readNumber_72 (by decide) ?_
  refine pz_iadd hC dX4_readNumber_73 ?_
  refine pz_putV hC dX4_readNumber_74 fp_X4_23 rfl rfl hf (fun f2 hf => ?_)
  refine pz_goto hC dX4_readNumber_77 ?_
  exact hk5 _ _ hf
def fX4_readNumber_100 (f : pz_H) (s0 : Int32) (s1 : Nat) : Option pz_H :=
  (pz_sV f s1 3 3 (.int s0)).bind fun f1 =>
  some f1
theorem tX4_readNumber_100 {G : pz_G} {C : pz_C} {f : pz_H} {s0 : Int32} {s1 : Nat} {r : pz_H} (hC : pz_OK G C cX4_readNumber 1 RX4) (hK : pz_K C none 1 21 0 0) (hf : fX4_readNumber_100 f s0 s1 = some r) : pz_W G C 1 100 [] [.int s0, .ref s1] f 0 0 (pz_Q G C none r 0 0) := by
  unfold fX4_readNumber_100 at hf
  refine pz_putV hC dX4_readNumber_100 fp_X4_32 rfl rfl hf (fun f1 hf => ?_)
  exact pz_vret hC hK dX4_readNumber_103 hf
def fX4_readNumber_80 (f : pz_H) (l0 : Nat) : Option pz_H :=
  (pz_gI f l0 3 2).bind fun v1 =>
  (pz_gI f l0 3 4).bind fun v2 =>
  if (v1 - v2) ≤ (7 : Int32) then fX4_readNumber_100 f ((2 : Int32)) l0 else
  fX4_readNumber_100 f ((4 : Int32)) l0
theorem tX4_readNumber_80 {G : pz_G} {C : pz_C} {f : pz_H} {l0 : Nat} {r : pz_H} (hC : pz_OK G C cX4_readNumber 1 RX4) (hK : pz_K C none 1 21 0 0) (hf : fX4_readNumber_80 f l0 = some r) : pz_W G C 1 80 [(0, .ref l0)] [] f 0 0 (pz_Q G C none r 0 0) := by
  unfold fX4_readNumber_80 at hf
  refine pz_aload_n hC dX4_readNumber_80 0 rfl ?_
  refine pz_aload_n hC dX4_readNumber_81 0 rfl ?_
  refine pz_getI hC dX4_readNumber_82 fa_X4_23 hf (fun v1 hf => ?_)
  refine pz_aload_n hC dX4_readNumber_85 0 rfl ?_
  refine pz_getI hC dX4_readNumber_86 fa_X4_39 hf (fun v2 hf => ?_)
  refine pz_isub hC dX4_readNumber_89 ?_
  refine pz_bipush (v := (7 : Int32)) hC dX4_readNumber_90 (by decide) ?_
  refine pz_icmp_le hC dX4_readNumber_92 hf (fun _ hf => ?_) (fun _ hf => ?_)
  · refine pz_iconst (v := (2 : Int32)) hC dX4_readNumber_99 (by decide) ?_
    refine pz_sub [] rfl ?_
    exact tX4_readNumber_100 hC hK hf
  · refine pz_iconst (v := (4 : Int32)) hC dX4_readNumber_95 (by decide) ?_
    refine pz_goto hC dX4_readNumber_96 ?_
    refine pz_sub [] rfl ?_
    exact tX4_readNumber_100 hC hK hf
def fX4_readNumber_5b (k5 : pz_H → Nat → Option pz_H) (f : pz_H) (l0 : Nat) : Option pz_H :=
  (pz_gI f l0 3 2).bind fun v1 =>
  (pz_gI f l0 3 1).bind fun v2 =>
  if v2 ≤ v1 then fX4_readNumber_80 f l0 else
  (pz_gI f l0 3 2).bind fun v3 =>
  (fnX4_byteAt f l0 v3).bind fun x4 =>
  (fnX4_isDigit x4).bind fun x5 =>
  if x5 = 0 then fX4_readNumber_80 f l0 else
  (pz_gI f l0 3 2).bind fun v6 =>
  (pz_gI f l0 3 4).bind fun v7 =>
  if (7 : Int32) ≤ (v6 - v7) then fX4_readNumber_67 k5 f l0 else
  (pz_gI f l0 3 5).bind fun v8 =>
  (pz_gI f l0 3 2).bind fun v9 =>
  (fnX4_byteAt f l0 v9).bind fun x10 =>
  (pz_sV f l0 3 5 (.int ((((10 : Int32) * v8) + x10) - (48 : Int32)))).bind fun f11 =>
  fX4_readNumber_67 k5 f11 l0
theorem tX4_readNumber_5b {G : pz_G} {C : pz_C} {f : pz_H} {k5 : pz_H → Nat → Option pz_H} {l0 : Nat} {r : pz_H} (hC : pz_OK G C cX4_readNumber 1 RX4) (hK : pz_K C none 1 21 0 0) (hk5 : ∀ (g : pz_H) (a0 : Nat), k5 g a0 = some r → pz_W G C 1 5 [(0, .ref a0)] [] g 0 0 (pz_Q G C none r 0 0)) (hf : fX4_readNumber_5b k5 f l0 = some r) : pz_W G C 1 5 [(0, .ref l0)] [] f 0 0 (pz_Q G C none r 0 0) := by
  unfold fX4_readNumber_5b at hf
  refine pz_aload_n hC dX4_readNumber_5 0 rfl ?_
  refine pz_getI hC dX4_readNumber_6 fa_X4_23 hf (fun v1 hf => ?_)
  refine pz_aload_n hC dX4_readNumber_9 0 rfl ?_
  refine pz_getI hC dX4_readNumber_10 fa_X4_15 hf (fun v2 hf => ?_)
  refine pz_icmp_ge hC dX4_readNumber_13 hf (fun _ hf => ?_) (fun _ hf => ?_)
  · exact tX4_readNumber_80 hC hK hf
  · refine pz_aload_n hC dX4_readNumber_16 0 rfl ?_
    refine pz_aload_n hC dX4_readNumber_17 0 rfl ?_
    refine pz_getI hC dX4_readNumber_18 fa_X4_23 hf (fun v3 hf => ?_)
    refine pz_Vi (As := [.int v3]) hC hK dX4_readNumber_21 py_X4_byteAt pv_X4_byteAt lk_X4_109 hf (fun _ h => mX4_byteAt h) rfl rfl (Nat.le_of_ble_eq_true rfl) ⟨by decide, by decide⟩ ⟨Nat.le_of_ble_eq_true rfl, Nat.le_of_ble_eq_true rfl⟩ (fun x4 hf => ?_)
    refine pz_Si (As := [.int x4]) hC hK dX4_readNumber_24 py_X4_isDigit ps_X4_isDigit lk_X4_122 hf (fun _ h => mX4_isDigit h) rfl rfl (Nat.le_of_ble_eq_true rfl) ⟨by decide, by decide⟩ ⟨by decide, by decide⟩ (fun x5 hf => ?_)
    refine pz_if_eq hC dX4_readNumber_27 hf (fun _ hf => ?_) (fun _ hf => ?_)
    · exact tX4_readNumber_80 hC hK hf
    · refine pz_aload_n hC dX4_readNumber_30 0 rfl ?_
      refine pz_getI hC dX4_readNumber_31 fa_X4_23 hf (fun v6 hf => ?_)
      refine pz_aload_n hC dX4_readNumber_34 0 rfl ?_
      refine pz_getI hC dX4_readNumber_35 fa_X4_39 hf (fun v7 hf => ?_)
      refine pz_isub hC dX4_readNumber_38 ?_
      refine pz_bipush (v := (7 : Int32)) hC dX4_readNumber_39 (by decide) ?_
      refine pz_icmp_ge hC dX4_readNumber_41 hf (fun _ hf => ?_) (fun _ hf => ?_)
      · exact tX4_readNumber_67 hC hK hk5 hf
      · refine pz_aload_n hC dX4_readNumber_44 0 rfl ?_
        refine pz_bipush (v := (10 : Int32)) hC dX4_readNumber_45 (by decide) ?_
        refine pz_aload_n hC dX4_readNumber_47 0 rfl ?_
        refine pz_getI hC dX4_readNumber_48 fa_X4_75 hf (fun v8 hf => ?_)
        refine pz_imul hC dX4_readNumber_51 ?_
        refine pz_aload_n hC dX4_readNumber_52 0 rfl ?_
        refine pz_aload_n hC dX4_readNumber_53 0 rfl ?_
        refine pz_getI hC dX4_readNumber_54 fa_X4_23 hf (fun v9 hf => ?_)
        refine pz_Vi (As := [.int v9]) hC hK dX4_readNumber_57 py_X4_byteAt pv_X4_byteAt lk_X4_109 hf (fun _ h => mX4_byteAt h) rfl rfl (Nat.le_of_ble_eq_true rfl) ⟨by decide, by decide⟩ ⟨Nat.le_of_ble_eq_true rfl, Nat.le_of_ble_eq_true rfl⟩ (fun x10 hf => ?_)
        refine pz_iadd hC dX4_readNumber_60 ?_
        refine pz_bipush (v := (48 : Int32)) hC dX4_readNumber_61 (by decide) ?_
        refine pz_isub hC dX4_readNumber_63 ?_
        refine pz_putV hC dX4_readNumber_64 fp_X4_75 rfl rfl hf (fun f11 hf => ?_)
        exact tX4_readNumber_67 hC hK hk5 hf
def fX4_readNumber_5 : Nat → pz_H → Nat → Option pz_H
  | 0, _, _ => none
  | n + 1, f, l0 => fX4_readNumber_5b (fX4_readNumber_5 n) f l0
theorem tX4_readNumber_5 {G : pz_G} {C : pz_C} {r : pz_H} (hC : pz_OK G C cX4_readNumber 1 RX4) (hK : pz_K C none 1 21 0 0) : ∀ (N : Nat) (f : pz_H) (l0 : Nat), fX4_readNumber_5 N f l0 = some r → pz_W G C 1 5 [(0, .ref l0)] [] f 0 0 (pz_Q G C none r 0 0) := by
  intro N
  induction N with
  | zero => intro f l0 hf; cases hf
  | succ N ih => intro f l0 hf; exact tX4_readNumber_5b hC hK (fun f l0 hf => ih f l0 hf) hf
def fnX4_readNumber (f : pz_H) (a0 : Nat) : Option pz_H :=
  (pz_is f a0 3).bind fun _ =>
  (pz_sV f a0 3 5 (.int (0 : Int32))).bind fun f1 =>
  fX4_readNumber_5 pz_F f1 a0
theorem mX4_readNumber {l : Launch} {G : pz_G} {f : pz_H} {a0 : Nat} {r : pz_H} (hf : fnX4_readNumber f a0 = some r) : pz_Met l G yX4_readNumber cX4_readNumber 1 none 1 21 0 0 [.ref a0] f none r ∧ pz_is f a0 3 = some () := by
  unfold fnX4_readNumber at hf
  obtain ⟨_, h0, hf⟩ := pz_bd hf
  refine ⟨pz_enter (by decide +kernel) (Nat.le_of_ble_eq_true rfl) (fun C hl hC hK hnm => ?_), h0⟩
  subst hl
  refine pz_sub (lv' := [(0, .ref a0)]) [0] rfl ?_
  refine pz_aload_n hC dX4_readNumber_0 0 rfl ?_
  refine pz_iconst (v := (0 : Int32)) hC dX4_readNumber_1 (by decide) ?_
  refine pz_putV hC dX4_readNumber_2 fp_X4_75 rfl rfl hf (fun f1 hf => ?_)
  exact tX4_readNumber_5 hC hK _ _ _ hf
def fX4_readWord_43 (f : pz_H) : Option pz_H :=
  some f
theorem tX4_readWord_43 {G : pz_G} {C : pz_C} {f : pz_H} {r : pz_H} (hC : pz_OK G C cX4_readWord 1 RX4) (hK : pz_K C none 1 21 0 0) (hf : fX4_readWord_43 f = some r) : pz_W G C 1 43 [] [] f 0 0 (pz_Q G C none r 0 0) := by
  unfold fX4_readWord_43 at hf
  exact pz_vret hC hK dX4_readWord_43 hf
def fX4_readWord_5b (k5 : pz_H → Nat → Option pz_H) (f : pz_H) (l0 : Nat) : Option pz_H :=
  (pz_gI f l0 3 2).bind fun v1 =>
  (pz_gI f l0 3 1).bind fun v2 =>
  if v2 ≤ v1 then fX4_readWord_43 f else
  (pz_gI f l0 3 2).bind fun v3 =>
  (fnX4_byteAt f l0 v3).bind fun x4 =>
  (fnX4_isLetter x4).bind fun x5 =>
  if x5 = 0 then fX4_readWord_43 f else
  (pz_gI f l0 3 2).bind fun v6 =>
  (pz_sV f l0 3 2 (.int (v6 + (1 : Int32)))).bind fun f7 =>
  k5 f7 l0
theorem tX4_readWord_5b {G : pz_G} {C : pz_C} {f : pz_H} {k5 : pz_H → Nat → Option pz_H} {l0 : Nat} {r : pz_H} (hC : pz_OK G C cX4_readWord 1 RX4) (hK : pz_K C none 1 21 0 0) (hk5 : ∀ (g : pz_H) (a0 : Nat), k5 g a0 = some r → pz_W G C 1 5 [(0, .ref a0)] [] g 0 0 (pz_Q G C none r 0 0)) (hf : fX4_readWord_5b k5 f l0 = some r) : pz_W G C 1 5 [(0, .ref l0)] [] f 0 0 (pz_Q G C none r 0 0) := by
  unfold fX4_readWord_5b at hf
  refine pz_aload_n hC dX4_readWord_5 0 rfl ?_
  refine pz_getI hC dX4_readWord_6 fa_X4_23 hf (fun v1 hf => ?_)
  refine pz_aload_n hC dX4_readWord_9 0 rfl ?_
  refine pz_getI hC dX4_readWord_10 fa_X4_15 hf (fun v2 hf => ?_)
  refine pz_icmp_ge hC dX4_readWord_13 hf (fun _ hf => ?_) (fun _ hf => ?_)
  · refine pz_sub [] rfl ?_
    exact tX4_readWord_43 hC hK hf
  · refine pz_aload_n hC dX4_readWord_16 0 rfl ?_
    refine pz_aload_n hC dX4_readWord_17 0 rfl ?_
    refine pz_getI hC dX4_readWord_18 fa_X4_23 hf (fun v3 hf => ?_)
    refine pz_Vi (As := [.int v3]) hC hK dX4_readWord_21 py_X4_byteAt pv_X4_byteAt lk_X4_109 hf (fun _ h => mX4_byteAt h) rfl rfl (Nat.le_of_ble_eq_true rfl) ⟨by decide, by decide⟩ ⟨Nat.le_of_ble_eq_true rfl, Nat.le_of_ble_eq_true rfl⟩ (fun x4 hf => ?_)
    refine pz_Si (As := [.int x4]) hC hK dX4_readWord_24 py_X4_isLetter ps_X4_isLetter lk_X4_116 hf (fun _ h => mX4_isLetter h) rfl rfl (Nat.le_of_ble_eq_true rfl) ⟨by decide, by decide⟩ ⟨by decide, by decide⟩ (fun x5 hf => ?_)
    refine pz_if_eq hC dX4_readWord_27 hf (fun _ hf => ?_) (fun _ hf => ?_)
    · refine pz_sub [] rfl ?_
      exact tX4_readWord_43 hC hK hf
    · refine pz_aload_n hC dX4_readWord_30 0 rfl ?_
      refine pz_dup hC dX4_readWord_31 rfl ?_
      refine pz_getI hC dX4_readWord_32 fa_X4_23 hf (fun v6 hf => ?_)
      refine pz_iconst (v := (1 : Int32)) hC dX4_readWord_35 (by decide) ?_
      refine pz_iadd hC dX4_readWord_36 ?_
      refine pz_putV hC dX4_readWord_37 fp_X4_23 rfl rfl hf (fun f7 hf => ?_)
      refine pz_goto hC dX4_readWord_40 ?_
      exact hk5 _ _ hf
def fX4_readWord_5 : Nat → pz_H → Nat → Option pz_H
  | 0, _, _ => none
  | n + 1, f, l0 => fX4_readWord_5b (fX4_readWord_5 n) f l0
theorem tX4_readWord_5 {G : pz_G} {C : pz_C} {r : pz_H} (hC : pz_OK G C cX4_readWord 1 RX4) (hK : pz_K C none 1 21 0 0) : ∀ (N : Nat) (f : pz_H) (l0 : Nat), fX4_readWord_5 N f l0 = some r → pz_W G C 1 5 [(0, .ref l0)] [] f 0 0 (pz_Q G C none r 0 0) := by
  intro N
  induction N with
  | zero => intro f l0 hf; cases hf
  | succ N ih => intro f l0 hf; exact tX4_readWord_5b hC hK (fun f l0 hf => ih f l0 hf) hf
def fnX4_readWord (f : pz_H) (a0 : Nat) : Option pz_H :=
  (pz_is f a0 3).bind fun _ =>
  (pz_sV f a0 3 3 (.int (1 : Int32))).bind fun f1 =>
  fX4_readWord_5 pz_F f1 a0
theorem mX4_readWord {l : Launch} {G : pz_G} {f : pz_H} {a0 : Nat} {r : pz_H} (hf : fnX4_readWord f a0 = some r) : pz_Met l G yX4_readWord cX4_readWord 1 none 1 21 0 0 [.ref a0] f none r ∧ pz_is f a0 3 = some () := by
  unfold fnX4_readWord at hf
  obtain ⟨_, h0, hf⟩ := pz_bd hf
  refine ⟨pz_enter (by decide +kernel) (Nat.le_of_ble_eq_true rfl) (fun C hl hC hK hnm => ?_), h0⟩
  subst hl
  refine pz_sub (lv' := [(0, .ref a0)]) [0] rfl ?_
  refine pz_aload_n hC dX4_readWord_0 0 rfl ?_
  refine pz_iconst (v := (1 : Int32)) hC dX4_readWord_1 (by decide) ?_
  refine pz_putV hC dX4_readWord_2 fp_X4_32 rfl rfl hf (fun f1 hf => ?_)
  exact tX4_readWord_5 hC hK _ _ _ hf
def fX4_readToken_39 (k0 : pz_H → Nat → Option pz_H) (f : pz_H) (l0 : Nat) : Option pz_H :=
  (pz_gI f l0 3 2).bind fun v1 =>
  (pz_sV f l0 3 2 (.int (v1 + (1 : Int32)))).bind fun f2 =>
  k0 f2 l0
theorem tX4_readToken_39 {G : pz_G} {C : pz_C} {f : pz_H} {k0 : pz_H → Nat → Option pz_H} {l0 : Nat} {r : pz_H} (hC : pz_OK G C cX4_readToken 1 RX4) (hK : pz_K C none 2 41 0 0) (hk0 : ∀ (g : pz_H) (a0 : Nat), k0 g a0 = some r → pz_W G C 1 0 [(0, .ref a0)] [] g 0 0 (pz_Q G C none r 0 0)) (hf : fX4_readToken_39 k0 f l0 = some r) : pz_W G C 1 39 [(0, .ref l0)] [] f 0 0 (pz_Q G C none r 0 0) := by
  unfold fX4_readToken_39 at hf
  refine pz_aload_n hC dX4_readToken_39 0 rfl ?_
  refine pz_dup hC dX4_readToken_40 rfl ?_
  refine pz_getI hC dX4_readToken_41 fa_X4_23 hf (fun v1 hf => ?_)
  refine pz_iconst (v := (1 : Int32)) hC dX4_readToken_44 (by decide) ?_
  refine pz_iadd hC dX4_readToken_45 ?_
  refine pz_putV hC dX4_readToken_46 fp_X4_23 rfl rfl hf (fun f2 hf => ?_)
  refine pz_goto hC dX4_readToken_49 ?_
  exact hk0 _ _ hf
def fX4_readToken_154 (f : pz_H) : Option pz_H :=
  some f
theorem tX4_readToken_154 {G : pz_G} {C : pz_C} {f : pz_H} {r : pz_H} (hC : pz_OK G C cX4_readToken 1 RX4) (hK : pz_K C none 2 41 0 0) (hf : fX4_readToken_154 f = some r) : pz_W G C 1 154 [] [] f 0 0 (pz_Q G C none r 0 0) := by
  unfold fX4_readToken_154 at hf
  exact pz_vret hC hK dX4_readToken_154 hf
def fX4_readToken_141 (f : pz_H) (l0 : Nat) (s0 : Int32) (s1 : Nat) : Option pz_H :=
  (pz_sV f s1 3 3 (.int s0)).bind fun f1 =>
  (pz_gI f1 l0 3 2).bind fun v2 =>
  (pz_sV f1 l0 3 2 (.int (v2 + (1 : Int32)))).bind fun f3 =>
  fX4_readToken_154 f3
theorem tX4_readToken_141 {G : pz_G} {C : pz_C} {f : pz_H} {l0 : Nat} {s0 : Int32} {s1 : Nat} {r : pz_H} (hC : pz_OK G C cX4_readToken 1 RX4) (hK : pz_K C none 2 41 0 0) (hf : fX4_readToken_141 f l0 s0 s1 = some r) : pz_W G C 1 141 [(0, .ref l0)] [.int s0, .ref s1] f 0 0 (pz_Q G C none r 0 0) := by
  unfold fX4_readToken_141 at hf
  refine pz_putV hC dX4_readToken_141 fp_X4_32 rfl rfl hf (fun f1 hf => ?_)
  refine pz_aload_n hC dX4_readToken_144 0 rfl ?_
  refine pz_dup hC dX4_readToken_145 rfl ?_
  refine pz_getI hC dX4_readToken_146 fa_X4_23 hf (fun v2 hf => ?_)
  refine pz_iconst (v := (1 : Int32)) hC dX4_readToken_149 (by decide) ?_
  refine pz_iadd hC dX4_readToken_150 ?_
  refine pz_putV hC dX4_readToken_151 fp_X4_23 rfl rfl hf (fun f3 hf => ?_)
  refine pz_sub [] rfl ?_
  exact tX4_readToken_154 hC hK hf
def fX4_readToken_52 (f : pz_H) (l0 : Nat) : Option pz_H :=
  (pz_gI f l0 3 2).bind fun v1 =>
  (pz_sV f l0 3 4 (.int v1)).bind fun f2 =>
  (pz_gI f2 l0 3 2).bind fun v3 =>
  (pz_gI f2 l0 3 1).bind fun v4 =>
  if v3 < v4 then (pz_gI f2 l0 3 2).bind fun v5 =>
  (fnX4_byteAt f2 l0 v5).bind fun x6 =>
  (fnX4_isLetter x6).bind fun x7 =>
  if x7 = 0 then (pz_gI f2 l0 3 2).bind fun v8 =>
  (fnX4_byteAt f2 l0 v8).bind fun x9 =>
  (fnX4_isDigit x9).bind fun x10 =>
  if x10 = 0 then (pz_gR f2 l0 3 0).bind fun v11 =>
  (pz_gI f2 l0 3 2).bind fun v12 =>
  (pz_aI f2 v11 2 v12).bind fun v13 =>
  if v13 = (59 : Int32) then fX4_readToken_141 f2 l0 ((3 : Int32)) l0 else
  fX4_readToken_141 f2 l0 ((4 : Int32)) l0 else
  (fnX4_readNumber f2 l0).bind fun x14 =>
  fX4_readToken_154 x14 else
  (fnX4_readWord f2 l0).bind fun x15 =>
  fX4_readToken_154 x15 else
  (pz_sV f2 l0 3 3 (.int (0 : Int32))).bind fun f16 =>
  fX4_readToken_154 f16
theorem tX4_readToken_52 {G : pz_G} {C : pz_C} {f : pz_H} {l0 : Nat} {r : pz_H} (hC : pz_OK G C cX4_readToken 1 RX4) (hK : pz_K C none 2 41 0 0) (hf : fX4_readToken_52 f l0 = some r) : pz_W G C 1 52 [(0, .ref l0)] [] f 0 0 (pz_Q G C none r 0 0) := by
  unfold fX4_readToken_52 at hf
  refine pz_aload_n hC dX4_readToken_52 0 rfl ?_
  refine pz_aload_n hC dX4_readToken_53 0 rfl ?_
  refine pz_getI hC dX4_readToken_54 fa_X4_23 hf (fun v1 hf => ?_)
  refine pz_putV hC dX4_readToken_57 fp_X4_39 rfl rfl hf (fun f2 hf => ?_)
  refine pz_aload_n hC dX4_readToken_60 0 rfl ?_
  refine pz_getI hC dX4_readToken_61 fa_X4_23 hf (fun v3 hf => ?_)
  refine pz_aload_n hC dX4_readToken_64 0 rfl ?_
  refine pz_getI hC dX4_readToken_65 fa_X4_15 hf (fun v4 hf => ?_)
  refine pz_icmp_lt hC dX4_readToken_68 hf (fun _ hf => ?_) (fun _ hf => ?_)
  · refine pz_aload_n hC dX4_readToken_79 0 rfl ?_
    refine pz_aload_n hC dX4_readToken_80 0 rfl ?_
    refine pz_getI hC dX4_readToken_81 fa_X4_23 hf (fun v5 hf => ?_)
    refine pz_Vi (As := [.int v5]) hC hK dX4_readToken_84 py_X4_byteAt pv_X4_byteAt lk_X4_109 hf (fun _ h => mX4_byteAt h) rfl rfl (Nat.le_of_ble_eq_true rfl) ⟨by decide, by decide⟩ ⟨Nat.le_of_ble_eq_true rfl, Nat.le_of_ble_eq_true rfl⟩ (fun x6 hf => ?_)
    refine pz_Si (As := [.int x6]) hC hK dX4_readToken_87 py_X4_isLetter ps_X4_isLetter lk_X4_116 hf (fun _ h => mX4_isLetter h) rfl rfl (Nat.le_of_ble_eq_true rfl) ⟨by decide, by decide⟩ ⟨by decide, by decide⟩ (fun x7 hf => ?_)
    refine pz_if_eq hC dX4_readToken_90 hf (fun _ hf => ?_) (fun _ hf => ?_)
    · refine pz_aload_n hC dX4_readToken_100 0 rfl ?_
      refine pz_aload_n hC dX4_readToken_101 0 rfl ?_
      refine pz_getI hC dX4_readToken_102 fa_X4_23 hf (fun v8 hf => ?_)
      refine pz_Vi (As := [.int v8]) hC hK dX4_readToken_105 py_X4_byteAt pv_X4_byteAt lk_X4_109 hf (fun _ h => mX4_byteAt h) rfl rfl (Nat.le_of_ble_eq_true rfl) ⟨by decide, by decide⟩ ⟨Nat.le_of_ble_eq_true rfl, Nat.le_of_ble_eq_true rfl⟩ (fun x9 hf => ?_)
      refine pz_Si (As := [.int x9]) hC hK dX4_readToken_108 py_X4_isDigit ps_X4_isDigit lk_X4_122 hf (fun _ h => mX4_isDigit h) rfl rfl (Nat.le_of_ble_eq_true rfl) ⟨by decide, by decide⟩ ⟨by decide, by decide⟩ (fun x10 hf => ?_)
      refine pz_if_eq hC dX4_readToken_111 hf (fun _ hf => ?_) (fun _ hf => ?_)
      · refine pz_aload_n hC dX4_readToken_121 0 rfl ?_
        refine pz_aload_n hC dX4_readToken_122 0 rfl ?_
        refine pz_getR hC dX4_readToken_123 fa_X4_9 hf (fun v11 hf => ?_)
        refine pz_aload_n hC dX4_readToken_126 0 rfl ?_
        refine pz_getI hC dX4_readToken_127 fa_X4_23 hf (fun v12 hf => ?_)
        refine pz_bald hC dX4_readToken_130 hf (fun v13 hf => ?_)
        refine pz_bipush (v := (59 : Int32)) hC dX4_readToken_131 (by decide) ?_
        refine pz_icmp_ne hC dX4_readToken_133 hf (fun _ hf => ?_) (fun _ hf => ?_)
        · refine pz_iconst (v := (4 : Int32)) hC dX4_readToken_140 (by decide) ?_
          exact tX4_readToken_141 hC hK hf
        · refine pz_iconst (v := (3 : Int32)) hC dX4_readToken_136 (by decide) ?_
          refine pz_goto hC dX4_readToken_137 ?_
          exact tX4_readToken_141 hC hK hf
      · refine pz_aload_n hC dX4_readToken_114 0 rfl ?_
        refine pz_Vv (As := []) hC hK dX4_readToken_115 py_X4_readNumber pv_X4_readNumber lk_X4_125 hf (fun _ h => mX4_readNumber h) rfl rfl (Nat.le_of_ble_eq_true rfl) ⟨by decide, by decide⟩ ⟨Nat.le_of_ble_eq_true rfl, Nat.le_of_ble_eq_true rfl⟩ (fun x14 hf => ?_)
        refine pz_goto hC dX4_readToken_118 ?_
        refine pz_sub [] rfl ?_
        exact tX4_readToken_154 hC hK hf
    · refine pz_aload_n hC dX4_readToken_93 0 rfl ?_
      refine pz_Vv (As := []) hC hK dX4_readToken_94 py_X4_readWord pv_X4_readWord lk_X4_119 hf (fun _ h => mX4_readWord h) rfl rfl (Nat.le_of_ble_eq_true rfl) ⟨by decide, by decide⟩ ⟨Nat.le_of_ble_eq_true rfl, Nat.le_of_ble_eq_true rfl⟩ (fun x15 hf => ?_)
      refine pz_goto hC dX4_readToken_97 ?_
      refine pz_sub [] rfl ?_
      exact tX4_readToken_154 hC hK hf
  · refine pz_aload_n hC dX4_readToken_71 0 rfl ?_
    refine pz_iconst (v := (0 : Int32)) hC dX4_readToken_72 (by decide) ?_
    refine pz_putV hC dX4_readToken_73 fp_X4_32 rfl rfl hf (fun f16 hf => ?_)
    refine pz_goto hC dX4_readToken_76 ?_
    refine pz_sub [] rfl ?_
    exact tX4_readToken_154 hC hK hf
def fX4_readToken_0b (k0 : pz_H → Nat → Option pz_H) (f : pz_H) (l0 : Nat) : Option pz_H :=
  (pz_gI f l0 3 2).bind fun v1 =>
  (pz_gI f l0 3 1).bind fun v2 =>
  if v2 ≤ v1 then fX4_readToken_52 f l0 else
  (pz_gR f l0 3 0).bind fun v3 =>
  (pz_gI f l0 3 2).bind fun v4 =>
  (pz_aI f v3 2 v4).bind fun v5 =>
  if v5 = (32 : Int32) then fX4_readToken_39 k0 f l0 else
  (pz_gR f l0 3 0).bind fun v6 =>
  (pz_gI f l0 3 2).bind fun v7 =>
  (pz_aI f v6 2 v7).bind fun v8 =>
  if v8 = (10 : Int32) then fX4_readToken_39 k0 f l0 else
  fX4_readToken_52 f l0
theorem tX4_readToken_0b {G : pz_G} {C : pz_C} {f : pz_H} {k0 : pz_H → Nat → Option pz_H} {l0 : Nat} {r : pz_H} (hC : pz_OK G C cX4_readToken 1 RX4) (hK : pz_K C none 2 41 0 0) (hk0 : ∀ (g : pz_H) (a0 : Nat), k0 g a0 = some r → pz_W G C 1 0 [(0, .ref a0)] [] g 0 0 (pz_Q G C none r 0 0)) (hf : fX4_readToken_0b k0 f l0 = some r) : pz_W G C 1 0 [(0, .ref l0)] [] f 0 0 (pz_Q G C none r 0 0) := by
  unfold fX4_readToken_0b at hf
  refine pz_aload_n hC dX4_readToken_0 0 rfl ?_
  refine pz_getI hC dX4_readToken_1 fa_X4_23 hf (fun v1 hf => ?_)
  refine pz_aload_n hC dX4_readToken_4 0 rfl ?_
  refine pz_getI hC dX4_readToken_5 fa_X4_15 hf (fun v2 hf => ?_)
  refine pz_icmp_ge hC dX4_readToken_8 hf (fun _ hf => ?_) (fun _ hf => ?_)
  · exact tX4_readToken_52 hC hK hf
  · refine pz_aload_n hC dX4_readToken_11 0 rfl ?_
    refine pz_getR hC dX4_readToken_12 fa_X4_9 hf (fun v3 hf => ?_)
    refine pz_aload_n hC dX4_readToken_15 0 rfl ?_
    refine pz_getI hC dX4_readToken_16 fa_X4_23 hf (fun v4 hf => ?_)
    refine pz_bald hC dX4_readToken_19 hf (fun v5 hf => ?_)
    refine pz_bipush (v := (32 : Int32)) hC dX4_readToken_20 (by decide) ?_
    refine pz_icmp_eq hC dX4_readToken_22 hf (fun _ hf => ?_) (fun _ hf => ?_)
    · exact tX4_readToken_39 hC hK hk0 hf
    · refine pz_aload_n hC dX4_readToken_25 0 rfl ?_
      refine pz_getR hC dX4_readToken_26 fa_X4_9 hf (fun v6 hf => ?_)
      refine pz_aload_n hC dX4_readToken_29 0 rfl ?_
      refine pz_getI hC dX4_readToken_30 fa_X4_23 hf (fun v7 hf => ?_)
      refine pz_bald hC dX4_readToken_33 hf (fun v8 hf => ?_)
      refine pz_bipush (v := (10 : Int32)) hC dX4_readToken_34 (by decide) ?_
      refine pz_icmp_ne hC dX4_readToken_36 hf (fun _ hf => ?_) (fun _ hf => ?_)
      · exact tX4_readToken_52 hC hK hf
      · exact tX4_readToken_39 hC hK hk0 hf
def fX4_readToken_0 : Nat → pz_H → Nat → Option pz_H
  | 0, _, _ => none
  | n + 1, f, l0 => fX4_readToken_0b (fX4_readToken_0 n) f l0
theorem tX4_readToken_0 {G : pz_G} {C : pz_C} {r : pz_H} (hC : pz_OK G C cX4_readToken 1 RX4) (hK : pz_K C none 2 41 0 0) : ∀ (N : Nat) (f : pz_H) (l0 : Nat), fX4_readToken_0 N f l0 = some r → pz_W G C 1 0 [(0, .ref l0)] [] f 0 0 (pz_Q G C none r 0 0) := by
  intro N
  induction N with
  | zero => intro f l0 hf; cases hf
  | succ N ih => intro f l0 hf; exact tX4_readToken_0b hC hK (fun f l0 hf => ih f l0 hf) hf
def fnX4_readToken (f : pz_H) (a0 : Nat) : Option pz_H :=
  (pz_is f a0 3).bind fun _ =>
  fX4_readToken_0 pz_F f a0
theorem mX4_readToken {l : Launch} {G : pz_G} {f : pz_H} {a0 : Nat} {r : pz_H} (hf : fnX4_readToken f a0 = some r) : pz_Met l G yX4_readToken cX4_readToken 1 none 2 41 0 0 [.ref a0] f none r ∧ pz_is f a0 3 = some () := by
  unfold fnX4_readToken at hf
  obtain ⟨_, h0, hf⟩ := pz_bd hf
  refine ⟨pz_enter (by decide +kernel) (Nat.le_of_ble_eq_true rfl) (fun C hl hC hK hnm => ?_), h0⟩
  subst hl
  refine pz_sub (lv' := [(0, .ref a0)]) [0] rfl ?_
  exact tX4_readToken_0 hC hK _ _ _ hf
def fX4_readClose_29 (f : pz_H) : Option pz_H :=
  some f
theorem tX4_readClose_29 {G : pz_G} {C : pz_C} {f : pz_H} {r : pz_H} (hC : pz_OK G C cX4_readClose 1 RX4) (hK : pz_K C none 3 61 0 0) (hf : fX4_readClose_29 f = some r) : pz_W G C 1 29 [] [] f 0 0 (pz_Q G C none r 0 0) := by
  unfold fX4_readClose_29 at hf
  exact pz_vret hC hK dX4_readClose_29 hf
def fnX4_readClose (f : pz_H) (a0 : Nat) : Option pz_H :=
  (pz_is f a0 3).bind fun _ =>
  (pz_gI f a0 3 7).bind fun v1 =>
  if v1 = 0 then (fnX4_readToken f a0).bind fun x2 =>
  (pz_gI x2 a0 3 3).bind fun v3 =>
  if v3 = (3 : Int32) then fX4_readClose_29 x2 else
  (pz_gI x2 a0 3 4).bind fun v4 =>
  (fnX4_blame x2 a0 ((1 : Int32)) v4).bind fun x5 =>
  fX4_readClose_29 x5 else
  some f
theorem mX4_readClose {l : Launch} {G : pz_G} {f : pz_H} {a0 : Nat} {r : pz_H} (hf : fnX4_readClose f a0 = some r) : pz_Met l G yX4_readClose cX4_readClose 1 none 3 61 0 0 [.ref a0] f none r ∧ pz_is f a0 3 = some () := by
  unfold fnX4_readClose at hf
  obtain ⟨_, h0, hf⟩ := pz_bd hf
  refine ⟨pz_enter (by decide +kernel) (Nat.le_of_ble_eq_true rfl) (fun C hl hC hK hnm => ?_), h0⟩
  subst hl
  refine pz_sub (lv' := [(0, .ref a0)]) [0] rfl ?_
  refine pz_aload_n hC dX4_readClose_0 0 rfl ?_
  refine pz_getI hC dX4_readClose_1 fa_X4_26 hf (fun v1 hf => ?_)
  refine pz_if_eq hC dX4_readClose_4 hf (fun _ hf => ?_) (fun _ hf => ?_)
  · refine pz_aload_n hC dX4_readClose_8 0 rfl ?_
    refine pz_Vv (As := []) hC hK dX4_readClose_9 py_X4_readToken pv_X4_readToken lk_X4_29 hf (fun _ h => mX4_readToken h) rfl rfl (Nat.le_of_ble_eq_true rfl) ⟨by decide, by decide⟩ ⟨Nat.le_of_ble_eq_true rfl, Nat.le_of_ble_eq_true rfl⟩ (fun x2 hf => ?_)
    refine pz_aload_n hC dX4_readClose_12 0 rfl ?_
    refine pz_getI hC dX4_readClose_13 fa_X4_32 hf (fun v3 hf => ?_)
    refine pz_iconst (v := (3 : Int32)) hC dX4_readClose_16 (by decide) ?_
    refine pz_icmp_eq hC dX4_readClose_17 hf (fun _ hf => ?_) (fun _ hf => ?_)
    · refine pz_sub [] rfl ?_
      exact tX4_readClose_29 hC hK hf
    · refine pz_aload_n hC dX4_readClose_20 0 rfl ?_
      refine pz_iconst (v := (1 : Int32)) hC dX4_readClose_21 (by decide) ?_
      refine pz_aload_n hC dX4_readClose_22 0 rfl ?_
      refine pz_getI hC dX4_readClose_23 fa_X4_39 hf (fun v4 hf => ?_)
      refine pz_Vv (As := [.int (1 : Int32), .int v4]) hC hK dX4_readClose_26 py_X4_blame pv_X4_blame lk_X4_46 hf (fun _ h => mX4_blame h) rfl rfl (Nat.le_of_ble_eq_true rfl) ⟨by decide, by decide⟩ ⟨Nat.le_of_ble_eq_true rfl, Nat.le_of_ble_eq_true rfl⟩ (fun x5 hf => ?_)
      refine pz_sub [] rfl ?_
      exact tX4_readClose_29 hC hK hf
  · exact pz_vret hC hK dX4_readClose_7 hf
def fJ0_isLatin1_aae02_18 (f : pz_H) (s0 : Int32) : Option Int32 :=
  pz_b s0
theorem tJ0_isLatin1_aae02_18 {G : pz_G} {C : pz_C} {f : pz_H} {s0 : Int32} {r : Int32} (hC : pz_OK G C cJ0_isLatin1_aae02 1 RJ0) (hK : pz_K C (some .boolean) 0 0 0 0) (hf : fJ0_isLatin1_aae02_18 f s0 = some r) : pz_W G C 1 18 [] [.int s0] f 0 0 (pz_Q G C (some (.int r)) f 0 0) := by
  unfold fJ0_isLatin1_aae02_18 at hf
  exact pz_zret hC hK dJ0_isLatin1_aae02_18 hf
def fJ0_isLatin1_aae02_17 (f : pz_H) : Option Int32 :=
  fJ0_isLatin1_aae02_18 f ((0 : Int32))
theorem tJ0_isLatin1_aae02_17 {G : pz_G} {C : pz_C} {f : pz_H} {r : Int32} (hC : pz_OK G C cJ0_isLatin1_aae02 1 RJ0) (hK : pz_K C (some .boolean) 0 0 0 0) (hf : fJ0_isLatin1_aae02_17 f = some r) : pz_W G C 1 17 [] [] f 0 0 (pz_Q G C (some (.int r)) f 0 0) := by
  unfold fJ0_isLatin1_aae02_17 at hf
  refine pz_iconst (v := (0 : Int32)) hC dJ0_isLatin1_aae02_17 (by decide) ?_
  exact tJ0_isLatin1_aae02_18 hC hK hf
def fnJ0_isLatin1_aae02 (f : pz_H) (a0 : Nat) : Option Int32 :=
  (pz_is f a0 101).bind fun _ =>
  if (1 : Int32) = 0 then fJ0_isLatin1_aae02_17 f else
  (pz_gI f a0 101 1).bind fun v1 =>
  if v1 = 0 then fJ0_isLatin1_aae02_18 f ((1 : Int32)) else
  fJ0_isLatin1_aae02_17 f
theorem mJ0_isLatin1_aae02 {l : Launch} {G : pz_G} {f : pz_H} {a0 : Nat} {r : Int32} (hf : fnJ0_isLatin1_aae02 f a0 = some r) : pz_Met l G yJ0_isLatin1_aae02 cJ0_isLatin1_aae02 1 (some .boolean) 0 0 0 0 [.ref a0] f (some (.int r)) f ∧ pz_is f a0 101 = some () := by
  unfold fnJ0_isLatin1_aae02 at hf
  obtain ⟨_, h0, hf⟩ := pz_bd hf
  refine ⟨pz_enter (by decide +kernel) (Nat.le_of_ble_eq_true rfl) (fun C hl hC hK hnm => ?_), h0⟩
  subst hl
  refine pz_sub (lv' := [(0, .ref a0)]) [0] rfl ?_
  refine pz_getsJ (i := 0) hC dJ0_isLatin1_aae02_0 rfl sl_J0_38 ?_
  refine pz_if_eq hC dJ0_isLatin1_aae02_3 hf (fun _ hf => ?_) (fun _ hf => ?_)
  · refine pz_sub [] rfl ?_
    exact tJ0_isLatin1_aae02_17 hC hK hf
  · refine pz_aload_n hC dJ0_isLatin1_aae02_6 0 rfl ?_
    refine pz_getSI (ci := 101) (j := 1) hC dJ0_isLatin1_aae02_7 (by decide) (Or.inl sl_J0_15) hf (fun v1 hf => ?_)
    refine pz_if_ne hC dJ0_isLatin1_aae02_10 hf (fun _ hf => ?_) (fun _ hf => ?_)
    · refine pz_sub [] rfl ?_
      exact tJ0_isLatin1_aae02_17 hC hK hf
    · refine pz_iconst (v := (1 : Int32)) hC dJ0_isLatin1_aae02_13 (by decide) ?_
      refine pz_goto hC dJ0_isLatin1_aae02_14 ?_
      refine pz_sub [] rfl ?_
      exact tJ0_isLatin1_aae02_18 hC hK hf
def fJ3_checkIndex_8e157_9 (l2 : Option Nat) : Option Int32 :=
  none
theorem tJ3_checkIndex_8e157_9 {G : pz_G} {C : pz_C} {f : pz_H} {l2 : Option Nat} {r : Int32} (hC : pz_OK G C cJ3_checkIndex_8e157 3 RJ3) (hK : pz_K C (some .int) 0 0 0 0) (hf : fJ3_checkIndex_8e157_9 l2 = some r) : pz_W G C 3 9 [(2, va_rf l2)] [] f 0 0 (pz_Q G C (some (.int r)) f 0 0) := by
  unfold fJ3_checkIndex_8e157_9 at hf
  cases hf
def fnJ3_checkIndex_8e157 (p0 : Int32) (p1 : Int32) : Option Int32 :=
  if p0 < 0 then none else
  if p0 < p1 then some p0 else
  none
theorem mJ3_checkIndex_8e157 {l : Launch} {G : pz_G} {f : pz_H} {p0 : Int32} {p1 : Int32} {p2 : Option Nat} {r : Int32} (hf : fnJ3_checkIndex_8e157 p0 p1 = some r) : pz_Met l G yJ3_checkIndex_8e157 cJ3_checkIndex_8e157 3 (some .int) 0 0 0 0 [.int p0, .int p1, va_rf p2] f (some (.int r)) f := by
  unfold fnJ3_checkIndex_8e157 at hf
  refine pz_enter (by decide +kernel) (by cases p2 <;> exact Nat.le_of_ble_eq_true rfl) (fun C hl hC hK hnm => ?_)
  subst hl
  refine pz_sub (lv' := [(0, .int p0), (1, .int p1), (2, va_rf p2)]) [0, 1, 2] rfl ?_
  refine pz_iload_n hC dJ3_checkIndex_8e157_0 0 rfl ?_
  refine pz_if_lt hC dJ3_checkIndex_8e157_1 hf (fun _ hf => ?_) (fun _ hf => ?_)
  · cases hf
  · refine pz_iload_n hC dJ3_checkIndex_8e157_4 0 rfl ?_
    refine pz_iload_n hC dJ3_checkIndex_8e157_5 1 rfl ?_
    refine pz_icmp_lt hC dJ3_checkIndex_8e157_6 hf (fun _ hf => ?_) (fun _ hf => ?_)
    · refine pz_iload_n hC dJ3_checkIndex_8e157_16 0 rfl ?_
      exact pz_iret hC hK dJ3_checkIndex_8e157_17 hf
    · cases hf
def fnJ0_checkIndex_df160 (f : pz_H) (p0 : Int32) (p1 : Int32) : Option Unit :=
  (fnJ3_checkIndex_8e157 p0 p1).bind fun x2 =>
  some ()
theorem mJ0_checkIndex_df160 {l : Launch} {G : pz_G} {f : pz_H} {p0 : Int32} {p1 : Int32} {r : Unit} (hf : fnJ0_checkIndex_df160 f p0 p1 = some r) : pz_Met l G yJ0_checkIndex_df160 cJ0_checkIndex_df160 2 none 1 22 0 0 [.int p0, .int p1] f none f := by
  unfold fnJ0_checkIndex_df160 at hf
  refine pz_enter (by decide +kernel) (Nat.le_of_ble_eq_true rfl) (fun C hl hC hK hnm => ?_)
  subst hl
  refine pz_sub (lv' := [(0, .int p0), (1, .int p1)]) [0, 1] rfl ?_
  refine pz_iload_n hC dJ0_checkIndex_df160_0 0 rfl ?_
  refine pz_iload_n hC dJ0_checkIndex_df160_1 1 rfl ?_
  refine pz_getsQ hC dJ0_checkIndex_df160_2 sl_J0_1053 (fun v1 => ?_)
  refine pz_Si (As := [.int p0, .int p1, va_rf v1]) hC hK dJ0_checkIndex_df160_5 py_J3_checkIndex_8e157 ps_J3_checkIndex_8e157 lk_J0_1059 hf (fun _ h => mJ3_checkIndex_8e157 h) rfl rfl (Nat.le_of_ble_eq_true rfl) ⟨by decide, by decide⟩ ⟨by decide, by decide⟩ (fun x2 hf => ?_)
  refine pz_pop hC dJ0_checkIndex_df160_8 rfl ?_
  exact pz_uret hC hK dJ0_checkIndex_df160_9 hf
def fnJ1_charAt_3b067 (f : pz_H) (p0 : Nat) (p1 : Int32) : Option Int32 :=
  (pz_ln f p0 12).bind fun v1 =>
  (fnJ0_checkIndex_df160 f p1 v1).bind fun x2 =>
  (pz_aI f p0 12 p1).bind fun v3 =>
  pz_nc ((((v3 &&& (255 : Int32))).toUInt32 % 65536).toInt32)
theorem mJ1_charAt_3b067 {l : Launch} {G : pz_G} {f : pz_H} {p0 : Nat} {p1 : Int32} {r : Int32} (hf : fnJ1_charAt_3b067 f p0 p1 = some r) : pz_Met l G yJ1_charAt_3b067 cJ1_charAt_3b067 2 (some .char) 2 43 0 0 [.ref p0, .int p1] f (some (.int r)) f := by
  unfold fnJ1_charAt_3b067 at hf
  refine pz_enter (by decide +kernel) (Nat.le_of_ble_eq_true rfl) (fun C hl hC hK hnm => ?_)
  subst hl
  refine pz_sub (lv' := [(0, .ref p0), (1, .int p1)]) [0, 1] rfl ?_
  refine pz_iload_n hC dJ1_charAt_3b067_0 1 rfl ?_
  refine pz_aload_n hC dJ1_charAt_3b067_1 0 rfl ?_
  refine pz_alenS hC dJ1_charAt_3b067_2 (by decide) hf (fun v1 hf => ?_)
  refine pz_Su (As := [.int p1, .int v1]) hC hK dJ1_charAt_3b067_3 py_J0_checkIndex_df160 ps_J0_checkIndex_df160 lk_J1_9 hf (fun _ h => mJ0_checkIndex_df160 h) rfl rfl (Nat.le_of_ble_eq_true rfl) ⟨by decide, by decide⟩ ⟨by decide, by decide⟩ (fun x2 hf => ?_)
  refine pz_aload_n hC dJ1_charAt_3b067_6 0 rfl ?_
  refine pz_iload_n hC dJ1_charAt_3b067_7 1 rfl ?_
  refine pz_baldS hC dJ1_charAt_3b067_8 hf (fun v3 hf => ?_)
  refine pz_sipush (v := (255 : Int32)) hC dJ1_charAt_3b067_9 (by decide) ?_
  refine pz_iand hC dJ1_charAt_3b067_12 ?_
  refine pz_i2c hC dJ1_charAt_3b067_13 ?_
  exact pz_cret hC hK dJ1_charAt_3b067_14 hf
def fnJ0_charAt_5068e (f : pz_H) (a0 : Nat) (p1 : Int32) : Option Int32 :=
  (pz_is f a0 101).bind fun _ =>
  (fnJ0_isLatin1_aae02 f a0).bind fun x1 =>
  if x1 = 0 then none else
  (pz_gR f a0 101 0).bind fun v2 =>
  (fnJ1_charAt_3b067 f v2 p1).bind fun x3 =>
  pz_nc x3
theorem mJ0_charAt_5068e {l : Launch} {G : pz_G} {f : pz_H} {a0 : Nat} {p1 : Int32} {r : Int32} (hf : fnJ0_charAt_5068e f a0 p1 = some r) : pz_Met l G yJ0_charAt_5068e cJ0_charAt_5068e 2 (some .char) 3 64 0 0 [.ref a0, .int p1] f (some (.int r)) f ∧ pz_is f a0 101 = some () := by
  unfold fnJ0_charAt_5068e at hf
  obtain ⟨_, h0, hf⟩ := pz_bd hf
  refine ⟨pz_enter (by decide +kernel) (Nat.le_of_ble_eq_true rfl) (fun C hl hC hK hnm => ?_), h0⟩
  subst hl
  refine pz_sub (lv' := [(0, .ref a0), (1, .int p1)]) [0, 1] rfl ?_
  refine pz_aload_n hC dJ0_charAt_5068e_0 0 rfl ?_
  refine pz_Vi (As := []) hC hK dJ0_charAt_5068e_1 py_J0_isLatin1_aae02 pv_J0_isLatin1_aae02 lk_J0_492 hf (fun _ h => mJ0_isLatin1_aae02 h) rfl rfl (Nat.le_of_ble_eq_true rfl) ⟨by decide, by decide⟩ ⟨Nat.le_of_ble_eq_true rfl, Nat.le_of_ble_eq_true rfl⟩ (fun x1 hf => ?_)
  refine pz_if_eq hC dJ0_charAt_5068e_4 hf (fun _ hf => ?_) (fun _ hf => ?_)
  · cases hf
  · refine pz_aload_n hC dJ0_charAt_5068e_7 0 rfl ?_
    refine pz_getSR (ci := 101) (j := 0) hC dJ0_charAt_5068e_8 (by decide) (Or.inl sl_J0_9) hf (fun v2 hf => ?_)
    refine pz_iload_n hC dJ0_charAt_5068e_11 1 rfl ?_
    refine pz_Si (As := [.ref v2, .int p1]) hC hK dJ0_charAt_5068e_12 py_J1_charAt_3b067 ps_J1_charAt_3b067 lk_J0_495 hf (fun _ h => mJ1_charAt_3b067 h) rfl rfl (Nat.le_of_ble_eq_true rfl) ⟨by decide, by decide⟩ ⟨by decide, by decide⟩ (fun x3 hf => ?_)
    exact pz_cret hC hK dJ0_charAt_5068e_15 hf
def fJ0_coder_7d493_14 (f : pz_H) (s0 : Int32) : Option Int32 :=
  pz_nb s0
theorem tJ0_coder_7d493_14 {G : pz_G} {C : pz_C} {f : pz_H} {s0 : Int32} {r : Int32} (hC : pz_OK G C cJ0_coder_7d493 1 RJ0) (hK : pz_K C (some .byte) 0 0 0 0) (hf : fJ0_coder_7d493_14 f s0 = some r) : pz_W G C 1 14 [] [.int s0] f 0 0 (pz_Q G C (some (.int r)) f 0 0) := by
  unfold fJ0_coder_7d493_14 at hf
  exact pz_bret hC hK dJ0_coder_7d493_14 hf
def fnJ0_coder_7d493 (f : pz_H) (a0 : Nat) : Option Int32 :=
  (pz_is f a0 101).bind fun _ =>
  if (1 : Int32) = 0 then fJ0_coder_7d493_14 f ((1 : Int32)) else
  (pz_gI f a0 101 1).bind fun v1 =>
  fJ0_coder_7d493_14 f v1
theorem mJ0_coder_7d493 {l : Launch} {G : pz_G} {f : pz_H} {a0 : Nat} {r : Int32} (hf : fnJ0_coder_7d493 f a0 = some r) : pz_Met l G yJ0_coder_7d493 cJ0_coder_7d493 1 (some .byte) 0 0 0 0 [.ref a0] f (some (.int r)) f ∧ pz_is f a0 101 = some () := by
  unfold fnJ0_coder_7d493 at hf
  obtain ⟨_, h0, hf⟩ := pz_bd hf
  refine ⟨pz_enter (by decide +kernel) (Nat.le_of_ble_eq_true rfl) (fun C hl hC hK hnm => ?_), h0⟩
  subst hl
  refine pz_sub (lv' := [(0, .ref a0)]) [0] rfl ?_
  refine pz_getsJ (i := 0) hC dJ0_coder_7d493_0 rfl sl_J0_38 ?_
  refine pz_if_eq hC dJ0_coder_7d493_3 hf (fun _ hf => ?_) (fun _ hf => ?_)
  · refine pz_iconst (v := (1 : Int32)) hC dJ0_coder_7d493_13 (by decide) ?_
    refine pz_sub [] rfl ?_
    exact tJ0_coder_7d493_14 hC hK hf
  · refine pz_aload_n hC dJ0_coder_7d493_6 0 rfl ?_
    refine pz_getSI (ci := 101) (j := 1) hC dJ0_coder_7d493_7 (by decide) (Or.inl sl_J0_15) hf (fun v1 hf => ?_)
    refine pz_goto hC dJ0_coder_7d493_10 ?_
    refine pz_sub [] rfl ?_
    exact tJ0_coder_7d493_14 hC hK hf
def fnJ0_length_8abf5 (f : pz_H) (a0 : Nat) : Option Int32 :=
  (pz_is f a0 101).bind fun _ =>
  (pz_gR f a0 101 0).bind fun v1 =>
  (pz_ln f v1 12).bind fun v2 =>
  (fnJ0_coder_7d493 f a0).bind fun x3 =>
  some ((v2 >>> (x3 &&& 31)))
theorem mJ0_length_8abf5 {l : Launch} {G : pz_G} {f : pz_H} {a0 : Nat} {r : Int32} (hf : fnJ0_length_8abf5 f a0 = some r) : pz_Met l G yJ0_length_8abf5 cJ0_length_8abf5 1 (some .int) 1 20 0 0 [.ref a0] f (some (.int r)) f ∧ pz_is f a0 101 = some () := by
  unfold fnJ0_length_8abf5 at hf
  obtain ⟨_, h0, hf⟩ := pz_bd hf
  refine ⟨pz_enter (by decide +kernel) (Nat.le_of_ble_eq_true rfl) (fun C hl hC hK hnm => ?_), h0⟩
  subst hl
  refine pz_sub (lv' := [(0, .ref a0)]) [0] rfl ?_
  refine pz_aload_n hC dJ0_length_8abf5_0 0 rfl ?_
  refine pz_getSR (ci := 101) (j := 0) hC dJ0_length_8abf5_1 (by decide) (Or.inl sl_J0_9) hf (fun v1 hf => ?_)
  refine pz_alenS hC dJ0_length_8abf5_4 (by decide) hf (fun v2 hf => ?_)
  refine pz_aload_n hC dJ0_length_8abf5_5 0 rfl ?_
  refine pz_Vi (As := []) hC hK dJ0_length_8abf5_6 py_J0_coder_7d493 pv_J0_coder_7d493 lk_J0_335 hf (fun _ h => mJ0_coder_7d493 h) rfl rfl (Nat.le_of_ble_eq_true rfl) ⟨by decide, by decide⟩ ⟨Nat.le_of_ble_eq_true rfl, Nat.le_of_ble_eq_true rfl⟩ (fun x3 hf => ?_)
  refine pz_ishr hC dJ0_length_8abf5_9 ?_
  exact pz_iret hC hK dJ0_length_8abf5_10 hf
def fX4_isWord_20b (k20 : Nat → Nat → Int32 → Option Int32) (f : pz_H) (l0 : Nat) (l1 : Nat) (l2 : Int32) : Option Int32 :=
  (fnJ0_length_8abf5 f l1).bind fun x1 =>
  if x1 ≤ l2 then pz_b ((1 : Int32)) else
  (pz_gI f l0 3 4).bind fun v2 =>
  (fnX4_byteAt f l0 ((v2 + l2))).bind fun x3 =>
  (fnJ0_charAt_5068e f l1 l2).bind fun x4 =>
  if x3 = x4 then k20 l0 l1 ((l2 + 1)) else
  pz_b ((0 : Int32))
theorem tX4_isWord_20b {G : pz_G} {C : pz_C} {f : pz_H} {k20 : Nat → Nat → Int32 → Option Int32} {l0 : Nat} {l1 : Nat} {l2 : Int32} {r : Int32} (hC : pz_OK G C cX4_isWord 3 RX4) (hK : pz_K C (some .boolean) 4 85 0 0) (hk20 : ∀ (a0 : Nat) (a1 : Nat) (a2 : Int32), k20 a0 a1 a2 = some r → pz_W G C 3 20 [(0, .ref a0), (1, .ref a1), (2, .int a2)] [] f 0 0 (pz_Q G C (some (.int r)) f 0 0)) (hf : fX4_isWord_20b k20 f l0 l1 l2 = some r) : pz_W G C 3 20 [(0, .ref l0), (1, .ref l1), (2, .int l2)] [] f 0 0 (pz_Q G C (some (.int r)) f 0 0) := by
  unfold fX4_isWord_20b at hf
  refine pz_iload_n hC dX4_isWord_20 2 rfl ?_
  refine pz_aload_n hC dX4_isWord_21 1 rfl ?_
  refine pz_Vi (As := []) hC hK dX4_isWord_22 py_J0_length_8abf5 pv_J0_length_8abf5 lk_X4_104 hf (fun _ h => mJ0_length_8abf5 h) rfl rfl (Nat.le_of_ble_eq_true rfl) ⟨by decide, by decide⟩ ⟨Nat.le_of_ble_eq_true rfl, Nat.le_of_ble_eq_true rfl⟩ (fun x1 hf => ?_)
  refine pz_icmp_ge hC dX4_isWord_25 hf (fun _ hf => ?_) (fun _ hf => ?_)
  · refine pz_iconst (v := (1 : Int32)) hC dX4_isWord_54 (by decide) ?_
    exact pz_zret hC hK dX4_isWord_55 hf
  · refine pz_aload_n hC dX4_isWord_28 0 rfl ?_
    refine pz_aload_n hC dX4_isWord_29 0 rfl ?_
    refine pz_getI hC dX4_isWord_30 fa_X4_39 hf (fun v2 hf => ?_)
    refine pz_iload_n hC dX4_isWord_33 2 rfl ?_
    refine pz_iadd hC dX4_isWord_34 ?_
    refine pz_Vi (As := [.int (v2 + l2)]) hC hK dX4_isWord_35 py_X4_byteAt pv_X4_byteAt lk_X4_109 hf (fun _ h => mX4_byteAt h) rfl rfl (Nat.le_of_ble_eq_true rfl) ⟨by decide, by decide⟩ ⟨Nat.le_of_ble_eq_true rfl, Nat.le_of_ble_eq_true rfl⟩ (fun x3 hf => ?_)
    refine pz_aload_n hC dX4_isWord_38 1 rfl ?_
    refine pz_iload_n hC dX4_isWord_39 2 rfl ?_
    refine pz_Vi (As := [.int l2]) hC hK dX4_isWord_40 py_J0_charAt_5068e pv_J0_charAt_5068e lk_X4_112 hf (fun _ h => mJ0_charAt_5068e h) rfl rfl (Nat.le_of_ble_eq_true rfl) ⟨by decide, by decide⟩ ⟨Nat.le_of_ble_eq_true rfl, Nat.le_of_ble_eq_true rfl⟩ (fun x4 hf => ?_)
    refine pz_icmp_eq hC dX4_isWord_43 hf (fun _ hf => ?_) (fun _ hf => ?_)
    · refine pz_iinc (v := (l2 + 1)) hC dX4_isWord_48 2 rfl rfl (by decide) rfl ?_
      refine pz_goto hC dX4_isWord_51 ?_
      refine pz_sub [1, 2, 0] rfl ?_
      exact hk20 _ _ _ hf
    · refine pz_iconst (v := (0 : Int32)) hC dX4_isWord_46 (by decide) ?_
      exact pz_zret hC hK dX4_isWord_47 hf
def fX4_isWord_20 (f : pz_H) : Nat → Nat → Nat → Int32 → Option Int32
  | 0, _, _, _ => none
  | n + 1, l0, l1, l2 => fX4_isWord_20b (fX4_isWord_20 f n) f l0 l1 l2
theorem tX4_isWord_20 {G : pz_G} {C : pz_C} {f : pz_H} {r : Int32} (hC : pz_OK G C cX4_isWord 3 RX4) (hK : pz_K C (some .boolean) 4 85 0 0) : ∀ (N : Nat) (l0 : Nat) (l1 : Nat) (l2 : Int32), fX4_isWord_20 f N l0 l1 l2 = some r → pz_W G C 3 20 [(0, .ref l0), (1, .ref l1), (2, .int l2)] [] f 0 0 (pz_Q G C (some (.int r)) f 0 0) := by
  intro N
  induction N with
  | zero => intro l0 l1 l2 hf; cases hf
  | succ N ih => intro l0 l1 l2 hf; exact tX4_isWord_20b hC hK (fun l0 l1 l2 hf => ih l0 l1 l2 hf) hf
def fnX4_isWord (f : pz_H) (a0 : Nat) (p1 : Nat) : Option Int32 :=
  (pz_is f a0 3).bind fun _ =>
  (fnJ0_length_8abf5 f p1).bind fun x1 =>
  (pz_gI f a0 3 2).bind fun v2 =>
  (pz_gI f a0 3 4).bind fun v3 =>
  if x1 = (v2 - v3) then fX4_isWord_20 f pz_F a0 p1 ((0 : Int32)) else
  pz_b ((0 : Int32))
theorem mX4_isWord {l : Launch} {G : pz_G} {f : pz_H} {a0 : Nat} {p1 : Nat} {r : Int32} (hf : fnX4_isWord f a0 p1 = some r) : pz_Met l G yX4_isWord cX4_isWord 3 (some .boolean) 4 85 0 0 [.ref a0, .ref p1] f (some (.int r)) f ∧ pz_is f a0 3 = some () := by
  unfold fnX4_isWord at hf
  obtain ⟨_, h0, hf⟩ := pz_bd hf
  refine ⟨pz_enter (by decide +kernel) (Nat.le_of_ble_eq_true rfl) (fun C hl hC hK hnm => ?_), h0⟩
  subst hl
  refine pz_sub (lv' := [(0, .ref a0), (1, .ref p1)]) [0, 1] rfl ?_
  refine pz_aload_n hC dX4_isWord_0 1 rfl ?_
  refine pz_Vi (As := []) hC hK dX4_isWord_1 py_J0_length_8abf5 pv_J0_length_8abf5 lk_X4_104 hf (fun _ h => mJ0_length_8abf5 h) rfl rfl (Nat.le_of_ble_eq_true rfl) ⟨by decide, by decide⟩ ⟨Nat.le_of_ble_eq_true rfl, Nat.le_of_ble_eq_true rfl⟩ (fun x1 hf => ?_)
  refine pz_aload_n hC dX4_isWord_4 0 rfl ?_
  refine pz_getI hC dX4_isWord_5 fa_X4_23 hf (fun v2 hf => ?_)
  refine pz_aload_n hC dX4_isWord_8 0 rfl ?_
  refine pz_getI hC dX4_isWord_9 fa_X4_39 hf (fun v3 hf => ?_)
  refine pz_isub hC dX4_isWord_12 ?_
  refine pz_icmp_eq hC dX4_isWord_13 hf (fun _ hf => ?_) (fun _ hf => ?_)
  · refine pz_iconst (v := (0 : Int32)) hC dX4_isWord_18 (by decide) ?_
    refine pz_istore_n hC dX4_isWord_19 (by decide) rfl ?_
    refine pz_sub [1, 2, 0] rfl ?_
    exact tX4_isWord_20 hC hK _ _ _ _ hf
  · refine pz_iconst (v := (0 : Int32)) hC dX4_isWord_16 (by decide) ?_
    exact pz_zret hC hK dX4_isWord_17 hf
def fX4_readHow_63 (f : pz_H) : Option pz_H :=
  some f
theorem tX4_readHow_63 {G : pz_G} {C : pz_C} {f : pz_H} {r : pz_H} (hC : pz_OK G C cX4_readHow 2 RX4) (hK : pz_K C none 5 107 0 0) (hf : fX4_readHow_63 f = some r) : pz_W G C 2 63 [] [] f 0 0 (pz_Q G C none r 0 0) := by
  unfold fX4_readHow_63 at hf
  exact pz_vret hC hK dX4_readHow_63 hf
def fX4_readHow_54 (f : pz_H) (l0 : Nat) : Option pz_H :=
  (pz_gI f l0 3 4).bind fun v1 =>
  (fnX4_blame f l0 ((1 : Int32)) v1).bind fun x2 =>
  fX4_readHow_63 x2
theorem tX4_readHow_54 {G : pz_G} {C : pz_C} {f : pz_H} {l0 : Nat} {r : pz_H} (hC : pz_OK G C cX4_readHow 2 RX4) (hK : pz_K C none 5 107 0 0) (hf : fX4_readHow_54 f l0 = some r) : pz_W G C 2 54 [(0, .ref l0)] [] f 0 0 (pz_Q G C none r 0 0) := by
  unfold fX4_readHow_54 at hf
  refine pz_aload_n hC dX4_readHow_54 0 rfl ?_
  refine pz_iconst (v := (1 : Int32)) hC dX4_readHow_55 (by decide) ?_
  refine pz_aload_n hC dX4_readHow_56 0 rfl ?_
  refine pz_getI hC dX4_readHow_57 fa_X4_39 hf (fun v1 hf => ?_)
  refine pz_Vv (As := [.int (1 : Int32), .int v1]) hC hK dX4_readHow_60 py_X4_blame pv_X4_blame lk_X4_46 hf (fun _ h => mX4_blame h) rfl rfl (Nat.le_of_ble_eq_true rfl) ⟨by decide, by decide⟩ ⟨Nat.le_of_ble_eq_true rfl, Nat.le_of_ble_eq_true rfl⟩ (fun x2 hf => ?_)
  refine pz_sub [] rfl ?_
  exact tX4_readHow_63 hC hK hf
def fX4_readHow_27 (f : pz_H) (l0 : Nat) (l1 : Int32) : Option pz_H :=
  (pz_gI f l0 3 3).bind fun v1 =>
  if v1 = (1 : Int32) then (fnX4_isWord f l0 ((f.2.1 6))).bind fun x2 =>
  if x2 = 0 then fX4_readHow_54 f l0 else
  (pz_gR f l0 3 6).bind fun v3 =>
  (pz_tI f v3 0 l1 ((1 : Int32))).bind fun f4 =>
  fX4_readHow_63 f4 else
  fX4_readHow_54 f l0
theorem tX4_readHow_27 {G : pz_G} {C : pz_C} {f : pz_H} {l0 : Nat} {l1 : Int32} {r : pz_H} (hC : pz_OK G C cX4_readHow 2 RX4) (hK : pz_K C none 5 107 0 0) (hf : fX4_readHow_27 f l0 l1 = some r) : pz_W G C 2 27 [(0, .ref l0), (1, .int l1)] [] f 0 0 (pz_Q G C none r 0 0) := by
  unfold fX4_readHow_27 at hf
  refine pz_aload_n hC dX4_readHow_27 0 rfl ?_
  refine pz_getI hC dX4_readHow_28 fa_X4_32 hf (fun v1 hf => ?_)
  refine pz_iconst (v := (1 : Int32)) hC dX4_readHow_31 (by decide) ?_
  refine pz_icmp_ne hC dX4_readHow_32 hf (fun _ hf => ?_) (fun _ hf => ?_)
  · refine pz_sub [0] rfl ?_
    exact tX4_readHow_54 hC hK hf
  · refine pz_aload_n hC dX4_readHow_35 0 rfl ?_
    refine pz_ldcS (i := 1) hC dX4_readHow_36 rfl ?_
    refine pz_Vi (As := [.ref (f.2.1 6)]) hC hK dX4_readHow_38 py_X4_isWord pv_X4_isWord lk_X4_90 hf (fun _ h => mX4_isWord h) rfl rfl (Nat.le_of_ble_eq_true rfl) ⟨by decide, by decide⟩ ⟨Nat.le_of_ble_eq_true rfl, Nat.le_of_ble_eq_true rfl⟩ (fun x2 hf => ?_)
    refine pz_if_eq hC dX4_readHow_41 hf (fun _ hf => ?_) (fun _ hf => ?_)
    · refine pz_sub [0] rfl ?_
      exact tX4_readHow_54 hC hK hf
    · refine pz_aload_n hC dX4_readHow_44 0 rfl ?_
      refine pz_getR hC dX4_readHow_45 fa_X4_19 hf (fun v3 hf => ?_)
      refine pz_iload_n hC dX4_readHow_48 1 rfl ?_
      refine pz_iconst (v := (1 : Int32)) hC dX4_readHow_49 (by decide) ?_
      refine pz_iast hC dX4_readHow_50 hf (fun f4 hf => ?_)
      refine pz_goto hC dX4_readHow_51 ?_
      refine pz_sub [] rfl ?_
      exact tX4_readHow_63 hC hK hf
def fnX4_readHow (f : pz_H) (a0 : Nat) (p1 : Int32) : Option pz_H :=
  (pz_is f a0 3).bind fun _ =>
  (pz_gI f a0 3 3).bind fun v1 =>
  if v1 = (1 : Int32) then (fnX4_isWord f a0 ((f.2.1 5))).bind fun x2 =>
  if x2 = 0 then fX4_readHow_27 f a0 p1 else
  (pz_gR f a0 3 6).bind fun v3 =>
  (pz_tI f v3 0 p1 ((0 : Int32))).bind fun f4 =>
  fX4_readHow_63 f4 else
  fX4_readHow_27 f a0 p1
theorem mX4_readHow {l : Launch} {G : pz_G} {f : pz_H} {a0 : Nat} {p1 : Int32} {r : pz_H} (hf : fnX4_readHow f a0 p1 = some r) : pz_Met l G yX4_readHow cX4_readHow 2 none 5 107 0 0 [.ref a0, .int p1] f none r ∧ pz_is f a0 3 = some () := by
  unfold fnX4_readHow at hf
  obtain ⟨_, h0, hf⟩ := pz_bd hf
  refine ⟨pz_enter (by decide +kernel) (Nat.le_of_ble_eq_true rfl) (fun C hl hC hK hnm => ?_), h0⟩
  subst hl
  refine pz_sub (lv' := [(0, .ref a0), (1, .int p1)]) [0, 1] rfl ?_
  refine pz_aload_n hC dX4_readHow_0 0 rfl ?_
  refine pz_getI hC dX4_readHow_1 fa_X4_32 hf (fun v1 hf => ?_)
  refine pz_iconst (v := (1 : Int32)) hC dX4_readHow_4 (by decide) ?_
  refine pz_icmp_ne hC dX4_readHow_5 hf (fun _ hf => ?_) (fun _ hf => ?_)
  · exact tX4_readHow_27 hC hK hf
  · refine pz_aload_n hC dX4_readHow_8 0 rfl ?_
    refine pz_ldcS (i := 0) hC dX4_readHow_9 rfl ?_
    refine pz_Vi (As := [.ref (f.2.1 5)]) hC hK dX4_readHow_11 py_X4_isWord pv_X4_isWord lk_X4_90 hf (fun _ h => mX4_isWord h) rfl rfl (Nat.le_of_ble_eq_true rfl) ⟨by decide, by decide⟩ ⟨Nat.le_of_ble_eq_true rfl, Nat.le_of_ble_eq_true rfl⟩ (fun x2 hf => ?_)
    refine pz_if_eq hC dX4_readHow_14 hf (fun _ hf => ?_) (fun _ hf => ?_)
    · exact tX4_readHow_27 hC hK hf
    · refine pz_aload_n hC dX4_readHow_17 0 rfl ?_
      refine pz_getR hC dX4_readHow_18 fa_X4_19 hf (fun v3 hf => ?_)
      refine pz_iload_n hC dX4_readHow_21 1 rfl ?_
      refine pz_iconst (v := (0 : Int32)) hC dX4_readHow_22 (by decide) ?_
      refine pz_iast hC dX4_readHow_23 hf (fun f4 hf => ?_)
      refine pz_goto hC dX4_readHow_24 ?_
      refine pz_sub [] rfl ?_
      exact tX4_readHow_63 hC hK hf
def fX4_readSlot_91 (f : pz_H) : Option pz_H :=
  some f
theorem tX4_readSlot_91 {G : pz_G} {C : pz_C} {f : pz_H} {r : pz_H} (hC : pz_OK G C cX4_readSlot 4 RX4) (hK : pz_K C none 6 128 0 0) (hf : fX4_readSlot_91 f = some r) : pz_W G C 4 91 [] [] f 0 0 (pz_Q G C none r 0 0) := by
  unfold fX4_readSlot_91 at hf
  exact pz_vret hC hK dX4_readSlot_91 hf
def fX4_readSlot_69 (f : pz_H) (l0 : Nat) : Option pz_H :=
  (pz_gI f l0 3 4).bind fun v1 =>
  (fnX4_blame f l0 ((2 : Int32)) v1).bind fun x2 =>
  fX4_readSlot_91 x2
theorem tX4_readSlot_69 {G : pz_G} {C : pz_C} {f : pz_H} {l0 : Nat} {r : pz_H} (hC : pz_OK G C cX4_readSlot 4 RX4) (hK : pz_K C none 6 128 0 0) (hf : fX4_readSlot_69 f l0 = some r) : pz_W G C 4 69 [(0, .ref l0)] [] f 0 0 (pz_Q G C none r 0 0) := by
  unfold fX4_readSlot_69 at hf
  refine pz_aload_n hC dX4_readSlot_69 0 rfl ?_
  refine pz_iconst (v := (2 : Int32)) hC dX4_readSlot_70 (by decide) ?_
  refine pz_aload_n hC dX4_readSlot_71 0 rfl ?_
  refine pz_getI hC dX4_readSlot_72 fa_X4_39 hf (fun v1 hf => ?_)
  refine pz_Vv (As := [.int (2 : Int32), .int v1]) hC hK dX4_readSlot_75 py_X4_blame pv_X4_blame lk_X4_46 hf (fun _ h => mX4_blame h) rfl rfl (Nat.le_of_ble_eq_true rfl) ⟨by decide, by decide⟩ ⟨Nat.le_of_ble_eq_true rfl, Nat.le_of_ble_eq_true rfl⟩ (fun x2 hf => ?_)
  refine pz_goto hC dX4_readSlot_78 ?_
  refine pz_sub [] rfl ?_
  exact tX4_readSlot_91 hC hK hf
def fX4_readSlot_81 (f : pz_H) (l0 : Nat) (l3 : Int32) : Option pz_H :=
  (pz_gR f l0 3 6).bind fun v1 =>
  (pz_gI f l0 3 5).bind fun v2 =>
  (pz_tI f v1 0 l3 v2).bind fun f3 =>
  fX4_readSlot_91 f3
theorem tX4_readSlot_81 {G : pz_G} {C : pz_C} {f : pz_H} {l0 : Nat} {l3 : Int32} {r : pz_H} (hC : pz_OK G C cX4_readSlot 4 RX4) (hK : pz_K C none 6 128 0 0) (hf : fX4_readSlot_81 f l0 l3 = some r) : pz_W G C 4 81 [(0, .ref l0), (3, .int l3)] [] f 0 0 (pz_Q G C none r 0 0) := by
  unfold fX4_readSlot_81 at hf
  refine pz_aload_n hC dX4_readSlot_81 0 rfl ?_
  refine pz_getR hC dX4_readSlot_82 fa_X4_19 hf (fun v1 hf => ?_)
  refine pz_iload_n hC dX4_readSlot_85 1 rfl ?_
  refine pz_aload_n hC dX4_readSlot_86 0 rfl ?_
  refine pz_getI hC dX4_readSlot_87 fa_X4_75 hf (fun v2 hf => ?_)
  refine pz_iast hC dX4_readSlot_90 hf (fun f3 hf => ?_)
  refine pz_sub [] rfl ?_
  exact tX4_readSlot_91 hC hK hf
def fnX4_readSlot (f : pz_H) (a0 : Nat) (p1 : Nat) (p2 : Int32) (p3 : Int32) : Option pz_H :=
  (pz_is f a0 3).bind fun _ =>
  if p2 = 0 then some f else
  (fnX4_readToken f a0).bind fun x1 =>
  if p2 = (2 : Int32) then (fnX4_readHow x1 a0 p3).bind fun x9 =>
  fX4_readSlot_91 x9 else
  (pz_gI x1 a0 3 3).bind fun v2 =>
  if v2 = (2 : Int32) then (pz_gI x1 a0 3 5).bind fun v3 =>
  (fnX9_isWithin x1 p2 v3).bind fun x4 =>
  if x4 = 0 then fX4_readSlot_69 x1 a0 else
  if p2 = (1 : Int32) then (pz_gI x1 a0 3 5).bind fun v5 =>
  (fnX3_hasSpouse x1 p1 v5).bind fun x6 =>
  if x6 = 0 then fX4_readSlot_69 x1 a0 else
  fX4_readSlot_81 x1 a0 p3 else
  fX4_readSlot_81 x1 a0 p3 else
  (pz_gI x1 a0 3 4).bind fun v7 =>
  (fnX4_blame x1 a0 ((1 : Int32)) v7).bind fun x8 =>
  fX4_readSlot_91 x8
theorem mX4_readSlot {l : Launch} {G : pz_G} {f : pz_H} {a0 : Nat} {p1 : Nat} {p2 : Int32} {p3 : Int32} {r : pz_H} (hf : fnX4_readSlot f a0 p1 p2 p3 = some r) : pz_Met l G yX4_readSlot cX4_readSlot 4 none 6 128 0 0 [.ref a0, .ref p1, .int p2, .int p3] f none r ∧ pz_is f a0 3 = some () := by
  unfold fnX4_readSlot at hf
  obtain ⟨_, h0, hf⟩ := pz_bd hf
  refine ⟨pz_enter (by decide +kernel) (Nat.le_of_ble_eq_true rfl) (fun C hl hC hK hnm => ?_), h0⟩
  subst hl
  refine pz_sub (lv' := [(0, .ref a0), (1, .ref p1), (2, .int p2), (3, .int p3)]) [0, 1, 2, 3] rfl ?_
  refine pz_iload_n hC dX4_readSlot_0 2 rfl ?_
  refine pz_if_ne hC dX4_readSlot_1 hf (fun _ hf => ?_) (fun _ hf => ?_)
  · refine pz_aload_n hC dX4_readSlot_5 0 rfl ?_
    refine pz_Vv (As := []) hC hK dX4_readSlot_6 py_X4_readToken pv_X4_readToken lk_X4_29 hf (fun _ h => mX4_readToken h) rfl rfl (Nat.le_of_ble_eq_true rfl) ⟨by decide, by decide⟩ ⟨Nat.le_of_ble_eq_true rfl, Nat.le_of_ble_eq_true rfl⟩ (fun x1 hf => ?_)
    refine pz_iload_n hC dX4_readSlot_9 2 rfl ?_
    refine pz_iconst (v := (2 : Int32)) hC dX4_readSlot_10 (by decide) ?_
    refine pz_icmp_ne hC dX4_readSlot_11 hf (fun _ hf => ?_) (fun _ hf => ?_)
    · refine pz_aload_n hC dX4_readSlot_22 0 rfl ?_
      refine pz_getI hC dX4_readSlot_23 fa_X4_32 hf (fun v2 hf => ?_)
      refine pz_iconst (v := (2 : Int32)) hC dX4_readSlot_26 (by decide) ?_
      refine pz_icmp_eq hC dX4_readSlot_27 hf (fun _ hf => ?_) (fun _ hf => ?_)
      · refine pz_iload_n hC dX4_readSlot_42 2 rfl ?_
        refine pz_aload_n hC dX4_readSlot_43 0 rfl ?_
        refine pz_getI hC dX4_readSlot_44 fa_X4_75 hf (fun v3 hf => ?_)
        refine pz_Si (As := [.int p2, .int v3]) hC hK dX4_readSlot_47 py_X9_isWithin ps_X9_isWithin lk_X4_78 hf (fun _ h => mX9_isWithin h) rfl rfl (Nat.le_of_ble_eq_true rfl) ⟨by decide, by decide⟩ ⟨by decide, by decide⟩ (fun x4 hf => ?_)
        refine pz_if_eq hC dX4_readSlot_50 hf (fun _ hf => ?_) (fun _ hf => ?_)
        · refine pz_sub [0] rfl ?_
          exact tX4_readSlot_69 hC hK hf
        · refine pz_iload_n hC dX4_readSlot_53 2 rfl ?_
          refine pz_iconst (v := (1 : Int32)) hC dX4_readSlot_54 (by decide) ?_
          refine pz_icmp_ne hC dX4_readSlot_55 hf (fun _ hf => ?_) (fun _ hf => ?_)
          · refine pz_sub [0, 3] rfl ?_
            exact tX4_readSlot_81 hC hK hf
          · refine pz_aload_n hC dX4_readSlot_58 1 rfl ?_
            refine pz_aload_n hC dX4_readSlot_59 0 rfl ?_
            refine pz_getI hC dX4_readSlot_60 fa_X4_75 hf (fun v5 hf => ?_)
            refine pz_Vi (As := [.int v5]) hC hK dX4_readSlot_63 py_X3_hasSpouse pv_X3_hasSpouse lk_X4_82 hf (fun _ h => mX3_hasSpouse h) rfl rfl (Nat.le_of_ble_eq_true rfl) ⟨by decide, by decide⟩ ⟨Nat.le_of_ble_eq_true rfl, Nat.le_of_ble_eq_true rfl⟩ (fun x6 hf => ?_)
            refine pz_if_ne hC dX4_readSlot_66 hf (fun _ hf => ?_) (fun _ hf => ?_)
            · refine pz_sub [0, 3] rfl ?_
              exact tX4_readSlot_81 hC hK hf
            · refine pz_sub [0] rfl ?_
              exact tX4_readSlot_69 hC hK hf
      · refine pz_aload_n hC dX4_readSlot_30 0 rfl ?_
        refine pz_iconst (v := (1 : Int32)) hC dX4_readSlot_31 (by decide) ?_
        refine pz_aload_n hC dX4_readSlot_32 0 rfl ?_
        refine pz_getI hC dX4_readSlot_33 fa_X4_39 hf (fun v7 hf => ?_)
        refine pz_Vv (As := [.int (1 : Int32), .int v7]) hC hK dX4_readSlot_36 py_X4_blame pv_X4_blame lk_X4_46 hf (fun _ h => mX4_blame h) rfl rfl (Nat.le_of_ble_eq_true rfl) ⟨by decide, by decide⟩ ⟨Nat.le_of_ble_eq_true rfl, Nat.le_of_ble_eq_true rfl⟩ (fun x8 hf => ?_)
        refine pz_goto hC dX4_readSlot_39 ?_
        refine pz_sub [] rfl ?_
        exact tX4_readSlot_91 hC hK hf
    · refine pz_aload_n hC dX4_readSlot_14 0 rfl ?_
      refine pz_iload_n hC dX4_readSlot_15 3 rfl ?_
      refine pz_Vv (As := [.int p3]) hC hK dX4_readSlot_16 py_X4_readHow pv_X4_readHow lk_X4_71 hf (fun _ h => mX4_readHow h) rfl rfl (Nat.le_of_ble_eq_true rfl) ⟨by decide, by decide⟩ ⟨Nat.le_of_ble_eq_true rfl, Nat.le_of_ble_eq_true rfl⟩ (fun x9 hf => ?_)
      refine pz_goto hC dX4_readSlot_19 ?_
      refine pz_sub [] rfl ?_
      exact tX4_readSlot_91 hC hK hf
  · exact pz_vret hC hK dX4_readSlot_4 hf
def fX4_verbHere_2b (k2 : Nat → Int32 → Option (Option Nat)) (f : pz_H) (l0 : Nat) (l1 : Int32) : Option (Option Nat) :=
  (pz_ln f ((f.2.1 4)) 11).bind fun v1 =>
  if v1 ≤ l1 then some none else
  (pz_aR f ((f.2.1 4)) 11 l1).bind fun v2 =>
  (pz_gR f v2 100 0).bind fun v3 =>
  (fnX4_isWord f l0 v3).bind fun x4 =>
  if x4 = 0 then k2 l0 ((l1 + 1)) else
  (pz_aR f ((f.2.1 4)) 11 l1).bind fun v5 =>
  some (some v5)
theorem tX4_verbHere_2b {G : pz_G} {C : pz_C} {f : pz_H} {k2 : Nat → Int32 → Option (Option Nat)} {l0 : Nat} {l1 : Int32} {r : (Option Nat)} (hC : pz_OK G C cX4_verbHere 2 RX4) (hK : pz_K C (some (.object "PartedPension$Verb")) 5 107 0 0) (hk2 : ∀ (a0 : Nat) (a1 : Int32), k2 a0 a1 = some r → pz_W G C 2 2 [(0, .ref a0), (1, .int a1)] [] f 0 0 (pz_Q G C (some (va_rf r)) f 0 0)) (hf : fX4_verbHere_2b k2 f l0 l1 = some r) : pz_W G C 2 2 [(0, .ref l0), (1, .int l1)] [] f 0 0 (pz_Q G C (some (va_rf r)) f 0 0) := by
  unfold fX4_verbHere_2b at hf
  refine pz_iload_n hC dX4_verbHere_2 1 rfl ?_
  refine pz_gets (i := 4) hC dX4_verbHere_3 rfl (Or.inr ⟨"PartedPension", sl_X4_96⟩) ?_
  refine pz_alenS hC dX4_verbHere_6 (by decide) hf (fun v1 hf => ?_)
  refine pz_icmp_ge hC dX4_verbHere_7 hf (fun _ hf => ?_) (fun _ hf => ?_)
  · refine pz_null hC dX4_verbHere_37 ?_
    exact pz_aretO (x := none) hC hK dX4_verbHere_38 hf
  · refine pz_aload_n hC dX4_verbHere_10 0 rfl ?_
    refine pz_gets (i := 4) hC dX4_verbHere_11 rfl (Or.inr ⟨"PartedPension", sl_X4_96⟩) ?_
    refine pz_iload_n hC dX4_verbHere_14 1 rfl ?_
    refine pz_aaldS hC dX4_verbHere_15 hf (fun v2 hf => ?_)
    refine pz_getSR (ci := 100) (j := 0) hC dX4_verbHere_16 (by decide) (Or.inr ⟨"PartedPension", sl_X4_100⟩) hf (fun v3 hf => ?_)
    refine pz_Vi (As := [.ref v3]) hC hK dX4_verbHere_19 py_X4_isWord pv_X4_isWord lk_X4_90 hf (fun _ h => mX4_isWord h) rfl rfl (Nat.le_of_ble_eq_true rfl) ⟨by decide, by decide⟩ ⟨Nat.le_of_ble_eq_true rfl, Nat.le_of_ble_eq_true rfl⟩ (fun x4 hf => ?_)
    refine pz_if_eq hC dX4_verbHere_22 hf (fun _ hf => ?_) (fun _ hf => ?_)
    · refine pz_iinc (v := (l1 + 1)) hC dX4_verbHere_31 1 rfl rfl (by decide) rfl ?_
      refine pz_goto hC dX4_verbHere_34 ?_
      refine pz_sub [1, 0] rfl ?_
      exact hk2 _ _ hf
    · refine pz_gets (i := 4) hC dX4_verbHere_25 rfl (Or.inr ⟨"PartedPension", sl_X4_96⟩) ?_
      refine pz_iload_n hC dX4_verbHere_28 1 rfl ?_
      refine pz_aaldS hC dX4_verbHere_29 hf (fun v5 hf => ?_)
      exact pz_aretO (x := (some v5)) hC hK dX4_verbHere_30 hf
def fX4_verbHere_2 (f : pz_H) : Nat → Nat → Int32 → Option (Option Nat)
  | 0, _, _ => none
  | n + 1, l0, l1 => fX4_verbHere_2b (fX4_verbHere_2 f n) f l0 l1
theorem tX4_verbHere_2 {G : pz_G} {C : pz_C} {f : pz_H} {r : (Option Nat)} (hC : pz_OK G C cX4_verbHere 2 RX4) (hK : pz_K C (some (.object "PartedPension$Verb")) 5 107 0 0) : ∀ (N : Nat) (l0 : Nat) (l1 : Int32), fX4_verbHere_2 f N l0 l1 = some r → pz_W G C 2 2 [(0, .ref l0), (1, .int l1)] [] f 0 0 (pz_Q G C (some (va_rf r)) f 0 0) := by
  intro N
  induction N with
  | zero => intro l0 l1 hf; cases hf
  | succ N ih => intro l0 l1 hf; exact tX4_verbHere_2b hC hK (fun l0 l1 hf => ih l0 l1 hf) hf
def fnX4_verbHere (f : pz_H) (a0 : Nat) : Option (Option Nat) :=
  (pz_is f a0 3).bind fun _ =>
  fX4_verbHere_2 f pz_F a0 ((0 : Int32))
theorem mX4_verbHere {l : Launch} {G : pz_G} {f : pz_H} {a0 : Nat} {r : (Option Nat)} (hf : fnX4_verbHere f a0 = some r) : pz_Met l G yX4_verbHere cX4_verbHere 2 (some (.object "PartedPension$Verb")) 5 107 0 0 [.ref a0] f (some (va_rf r)) f ∧ pz_is f a0 3 = some () := by
  unfold fnX4_verbHere at hf
  obtain ⟨_, h0, hf⟩ := pz_bd hf
  refine ⟨pz_enter (by decide +kernel) (Nat.le_of_ble_eq_true rfl) (fun C hl hC hK hnm => ?_), h0⟩
  subst hl
  refine pz_sub (lv' := [(0, .ref a0)]) [0] rfl ?_
  refine pz_iconst (v := (0 : Int32)) hC dX4_verbHere_0 (by decide) ?_
  refine pz_istore_n hC dX4_verbHere_1 (by decide) rfl ?_
  refine pz_sub [1, 0] rfl ?_
  exact tX4_verbHere_2 hC hK _ _ _ hf
def fnJx29ce0_ordinal_8abf5 (f : pz_H) (a0 : Nat) : Option Int32 :=
  (pz_is f a0 100).bind fun _ =>
  (pz_gI f a0 100 5).bind fun v1 =>
  some v1
theorem mJx29ce0_ordinal_8abf5 {l : Launch} {G : pz_G} {f : pz_H} {a0 : Nat} {r : Int32} (hf : fnJx29ce0_ordinal_8abf5 f a0 = some r) : pz_Met l G yJx29ce0_ordinal_8abf5 cJx29ce0_ordinal_8abf5 1 (some .int) 0 0 0 0 [.ref a0] f (some (.int r)) f ∧ pz_is f a0 100 = some () := by
  unfold fnJx29ce0_ordinal_8abf5 at hf
  obtain ⟨_, h0, hf⟩ := pz_bd hf
  refine ⟨pz_enter (by decide +kernel) (Nat.le_of_ble_eq_true rfl) (fun C hl hC hK hnm => ?_), h0⟩
  subst hl
  refine pz_sub (lv' := [(0, .ref a0)]) [0] rfl ?_
  refine pz_aload_n hC dJx29ce0_ordinal_8abf5_0 0 rfl ?_
  refine pz_getSI (ci := 100) (j := 5) hC dJx29ce0_ordinal_8abf5_1 (by decide) (Or.inl sl_Jx29ce0_7) hf (fun v1 hf => ?_)
  exact pz_iret hC hK dJx29ce0_ordinal_8abf5_4 hf
def fX8_isFull_64 (f : pz_H) (s0 : Int32) : Option Int32 :=
  pz_b s0
theorem tX8_isFull_64 {G : pz_G} {C : pz_C} {f : pz_H} {s0 : Int32} {r : Int32} (hC : pz_OK G C cX8_isFull 2 RX8) (hK : pz_K C (some .boolean) 1 20 0 0) (hf : fX8_isFull_64 f s0 = some r) : pz_W G C 2 64 [] [.int s0] f 0 0 (pz_Q G C (some (.int r)) f 0 0) := by
  unfold fX8_isFull_64 at hf
  exact pz_zret hC hK dX8_isFull_64 hf
def fX8_isFull_50 (f : pz_H) (s0 : Int32) : Option Int32 :=
  pz_b s0
theorem tX8_isFull_50 {G : pz_G} {C : pz_C} {f : pz_H} {s0 : Int32} {r : Int32} (hC : pz_OK G C cX8_isFull 2 RX8) (hK : pz_K C (some .boolean) 1 20 0 0) (hf : fX8_isFull_50 f s0 = some r) : pz_W G C 2 50 [] [.int s0] f 0 0 (pz_Q G C (some (.int r)) f 0 0) := by
  unfold fX8_isFull_50 at hf
  exact pz_zret hC hK dX8_isFull_50 hf
def fnX8_isFull (f : pz_H) (a0 : Nat) (p1 : Nat) : Option Int32 :=
  (pz_is f a0 100).bind fun _ =>
  (fnJx29ce0_ordinal_8abf5 f a0).bind fun x1 =>
  (pz_aI f ((f.2.1 3)) 10 x1).bind fun v2 =>
  if v2 = (1 : Int32) then (pz_gI f p1 2 5).bind fun v3 =>
  if v3 < (8 : Int32) then fX8_isFull_50 f ((0 : Int32)) else
  fX8_isFull_50 f ((1 : Int32)) else
  if v2 = (2 : Int32) then (pz_gI f p1 2 8).bind fun v4 =>
  if v4 < (4 : Int32) then fX8_isFull_64 f ((0 : Int32)) else
  fX8_isFull_64 f ((1 : Int32)) else
  pz_b ((0 : Int32))
theorem mX8_isFull {l : Launch} {G : pz_G} {f : pz_H} {a0 : Nat} {p1 : Nat} {r : Int32} (hf : fnX8_isFull f a0 p1 = some r) : pz_Met l G yX8_isFull cX8_isFull 2 (some .boolean) 1 20 0 0 [.ref a0, .ref p1] f (some (.int r)) f ∧ pz_is f a0 100 = some () := by
  unfold fnX8_isFull at hf
  obtain ⟨_, h0, hf⟩ := pz_bd hf
  refine ⟨pz_enter (by decide +kernel) (Nat.le_of_ble_eq_true rfl) (fun C hl hC hK hnm => ?_), h0⟩
  subst hl
  refine pz_sub (lv' := [(0, .ref a0), (1, .ref p1)]) [0, 1] rfl ?_
  refine pz_gets (i := 3) hC dX8_isFull_0 rfl (Or.inl sl_X8_84) ?_
  refine pz_aload_n hC dX8_isFull_3 0 rfl ?_
  refine pz_VU (As := []) (x := vo_x) (owner := "java/lang/Enum") hC hK dX8_isFull_4 py_Jx29ce0_ordinal_8abf5 rfl vo_in vo_se vo_sm (Or.inr ⟨by decide, by decide +kernel⟩) vo_lk90 hf (fun _ h => mJx29ce0_ordinal_8abf5 h) rfl rfl (Nat.le_of_ble_eq_true rfl) ⟨by decide, by decide⟩ ⟨by decide, by decide⟩ (fun x1 hf => ?_)
  refine pz_ialdS hC dX8_isFull_7 hf (fun v2 hf => ?_)
  refine pz_case (x := v2) (v := (1 : Int32)) hf (fun c8_1 hf => ?_) (fun c8_1 hf => ?_)
  · refine pz_lkup (off := 28) (tgt := 36) hC dX8_isFull_8 (by decide) (by rw [c8_1]; decide) rfl ?_
    refine pz_aload_n hC dX8_isFull_36 1 rfl ?_
    refine pz_getI hC dX8_isFull_37 fa_X8_94 hf (fun v3 hf => ?_)
    refine pz_bipush (v := (8 : Int32)) hC dX8_isFull_40 (by decide) ?_
    refine pz_icmp_lt hC dX8_isFull_42 hf (fun _ hf => ?_) (fun _ hf => ?_)
    · refine pz_iconst (v := (0 : Int32)) hC dX8_isFull_49 (by decide) ?_
      refine pz_sub [] rfl ?_
      exact tX8_isFull_50 hC hK hf
    · refine pz_iconst (v := (1 : Int32)) hC dX8_isFull_45 (by decide) ?_
      refine pz_goto hC dX8_isFull_46 ?_
      refine pz_sub [] rfl ?_
      exact tX8_isFull_50 hC hK hf
  refine pz_case (x := v2) (v := (2 : Int32)) hf (fun c8_2 hf => ?_) (fun c8_2 hf => ?_)
  · refine pz_lkup (off := 43) (tgt := 51) hC dX8_isFull_8 (by decide) (by rw [c8_2]; decide) rfl ?_
    refine pz_aload_n hC dX8_isFull_51 1 rfl ?_
    refine pz_getI hC dX8_isFull_52 fa_X8_99 hf (fun v4 hf => ?_)
    refine pz_iconst (v := (4 : Int32)) hC dX8_isFull_55 (by decide) ?_
    refine pz_icmp_lt hC dX8_isFull_56 hf (fun _ hf => ?_) (fun _ hf => ?_)
    · refine pz_iconst (v := (0 : Int32)) hC dX8_isFull_63 (by decide) ?_
      refine pz_sub [] rfl ?_
      exact tX8_isFull_64 hC hK hf
    · refine pz_iconst (v := (1 : Int32)) hC dX8_isFull_59 (by decide) ?_
      refine pz_goto hC dX8_isFull_60 ?_
      refine pz_sub [] rfl ?_
      exact tX8_isFull_64 hC hK hf
  refine pz_lkup (off := 57) (tgt := 65) hC dX8_isFull_8 (by decide) (by show Op.lookupswitch.offset [(1, 28), (2, 43)] 57 _ = 57; rw [lv_osw (a := 1) c8_1 rfl, lv_osw (a := 2) c8_2 rfl]; rfl) rfl ?_
  refine pz_iconst (v := (0 : Int32)) hC dX8_isFull_65 (by decide) ?_
  exact pz_zret hC hK dX8_isFull_66 hf
def fnX8_perform (f : pz_H) (a0 : Nat) (p1 : Nat) (p2 : Int32) (p3 : Int32) (p4 : Int32) (p5 : Int32) : Option (Int32 × pz_H) :=
  (pz_is f a0 100).bind fun _ =>
  (fnJx29ce0_ordinal_8abf5 f a0).bind fun x1 =>
  (pz_aI f ((f.2.1 3)) 10 x1).bind fun v2 =>
  if v2 = (1 : Int32) then (fnX3_serve f p1 p2 p3 p4).bind fun x3 =>
  (pz_b x3.1).bind fun x => some (x, x3.2) else
  if v2 = (2 : Int32) then (fnX3_wed f p1 p2 p3).bind fun x4 =>
  (pz_b x4.1).bind fun x => some (x, x4.2) else
  if v2 = (3 : Int32) then (fnX3_beginAnew f p1 p2).bind fun x5 =>
  (pz_b ((1 : Int32))).bind fun x => some (x, x5) else
  if v2 = (4 : Int32) then (fnX3_part f p1 p2 p3 p4 p5).bind fun x6 =>
  (pz_b x6.1).bind fun x => some (x, x6.2) else
  if v2 = (5 : Int32) then (pz_gR f p1 2 9).bind fun v7 =>
  (fnX2_tellYear f v7 p2 p3).bind fun x8 =>
  (pz_b x8.1).bind fun x => some (x, x8.2) else
  if v2 = (6 : Int32) then (fnX3_alter f p1 ((4 : Int32)) p2 p3).bind fun x9 =>
  (pz_b x9.1).bind fun x => some (x, x9.2) else
  if v2 = (7 : Int32) then (fnX3_alter f p1 ((5 : Int32)) p2 p3).bind fun x10 =>
  (pz_b x10.1).bind fun x => some (x, x10.2) else
  if v2 = (8 : Int32) then (fnX3_alter f p1 ((6 : Int32)) ((0 : Int32)) p2).bind fun x11 =>
  (pz_b x11.1).bind fun x => some (x, x11.2) else
  if v2 = (9 : Int32) then (fnX3_alter f p1 ((0 : Int32)) ((0 : Int32)) p2).bind fun x12 =>
  (pz_b x12.1).bind fun x => some (x, x12.2) else
  (pz_gI f a0 100 1).bind fun v13 =>
  (fnX3_alter f p1 ((((10 : Int32) + v13) - (8 : Int32))) ((0 : Int32)) p2).bind fun x14 =>
  (pz_b x14.1).bind fun x => some (x, x14.2)
theorem mX8_perform {l : Launch} {G : pz_G} {f : pz_H} {a0 : Nat} {p1 : Nat} {p2 : Int32} {p3 : Int32} {p4 : Int32} {p5 : Int32} {r : (Int32 × pz_H)} (hf : fnX8_perform f a0 p1 p2 p3 p4 p5 = some r) : pz_Met l G yX8_perform cX8_perform 6 (some .boolean) 3 73 0 0 [.ref a0, .ref p1, .int p2, .int p3, .int p4, .int p5] f (some (.int r.1)) r.2 ∧ pz_is f a0 100 = some () := by
  unfold fnX8_perform at hf
  obtain ⟨_, h0, hf⟩ := pz_bd hf
  refine ⟨pz_enter (by decide +kernel) (Nat.le_of_ble_eq_true rfl) (fun C hl hC hK hnm => ?_), h0⟩
  subst hl
  refine pz_sub (lv' := [(0, .ref a0), (1, .ref p1), (2, .int p2), (3, .int p3), (4, .int p4), (5, .int p5)]) [0, 1, 2, 3, 4, 5] rfl ?_
  refine pz_gets (i := 3) hC dX8_perform_0 rfl (Or.inl sl_X8_84) ?_
  refine pz_aload_n hC dX8_perform_3 0 rfl ?_
  refine pz_VU (As := []) (x := vo_x) (owner := "java/lang/Enum") hC hK dX8_perform_4 py_Jx29ce0_ordinal_8abf5 rfl vo_in vo_se vo_sm (Or.inr ⟨by decide, by decide +kernel⟩) vo_lk90 hf (fun _ h => mJx29ce0_ordinal_8abf5 h) rfl rfl (Nat.le_of_ble_eq_true rfl) ⟨by decide, by decide⟩ ⟨by decide, by decide⟩ (fun x1 hf => ?_)
  refine pz_ialdS hC dX8_perform_7 hf (fun v2 hf => ?_)
  refine pz_case (x := v2) (v := (1 : Int32)) hf (fun c8_1 hf => ?_) (fun c8_1 hf => ?_)
  · refine pz_tabI (tgt := 67) hC dX8_perform_8 c8_1 (by decide) (by decide) rfl rfl ?_
    refine pz_aload_n hC dX8_perform_67 1 rfl ?_
    refine pz_iload_n hC dX8_perform_68 2 rfl ?_
    refine pz_iload_n hC dX8_perform_69 3 rfl ?_
    refine pz_iload hC dX8_perform_70 4 rfl ?_
    refine pz_Viw (As := [.int p2, .int p3, .int p4]) hC hK dX8_perform_72 py_X3_serve pv_X3_serve lk_X8_106 hf (fun _ h => mX3_serve h) rfl rfl (Nat.le_of_ble_eq_true rfl) ⟨by decide, by decide⟩ ⟨Nat.le_of_ble_eq_true rfl, Nat.le_of_ble_eq_true rfl⟩ (fun x3 hf => ?_)
    exact pz_zretw hC hK dX8_perform_75 hf
  refine pz_case (x := v2) (v := (2 : Int32)) hf (fun c8_2 hf => ?_) (fun c8_2 hf => ?_)
  · refine pz_tabI (tgt := 76) hC dX8_perform_8 c8_2 (by decide) (by decide) rfl rfl ?_
    refine pz_aload_n hC dX8_perform_76 1 rfl ?_
    refine pz_iload_n hC dX8_perform_77 2 rfl ?_
    refine pz_iload_n hC dX8_perform_78 3 rfl ?_
    refine pz_Viw (As := [.int p2, .int p3]) hC hK dX8_perform_79 py_X3_wed pv_X3_wed lk_X8_110 hf (fun _ h => mX3_wed h) rfl rfl (Nat.le_of_ble_eq_true rfl) ⟨by decide, by decide⟩ ⟨Nat.le_of_ble_eq_true rfl, Nat.le_of_ble_eq_true rfl⟩ (fun x4 hf => ?_)
    exact pz_zretw hC hK dX8_perform_82 hf
  refine pz_case (x := v2) (v := (3 : Int32)) hf (fun c8_3 hf => ?_) (fun c8_3 hf => ?_)
  · refine pz_tabI (tgt := 60) hC dX8_perform_8 c8_3 (by decide) (by decide) rfl rfl ?_
    refine pz_aload_n hC dX8_perform_60 1 rfl ?_
    refine pz_iload_n hC dX8_perform_61 2 rfl ?_
    refine pz_Vv (As := [.int p2]) hC hK dX8_perform_62 py_X3_beginAnew pv_X3_beginAnew lk_X8_102 hf (fun _ h => mX3_beginAnew h) rfl rfl (Nat.le_of_ble_eq_true rfl) ⟨by decide, by decide⟩ ⟨Nat.le_of_ble_eq_true rfl, Nat.le_of_ble_eq_true rfl⟩ (fun x5 hf => ?_)
    refine pz_iconst (v := (1 : Int32)) hC dX8_perform_65 (by decide) ?_
    exact pz_zretw hC hK dX8_perform_66 hf
  refine pz_case (x := v2) (v := (4 : Int32)) hf (fun c8_4 hf => ?_) (fun c8_4 hf => ?_)
  · refine pz_tabI (tgt := 83) hC dX8_perform_8 c8_4 (by decide) (by decide) rfl rfl ?_
    refine pz_aload_n hC dX8_perform_83 1 rfl ?_
    refine pz_iload_n hC dX8_perform_84 2 rfl ?_
    refine pz_iload_n hC dX8_perform_85 3 rfl ?_
    refine pz_iload hC dX8_perform_86 4 rfl ?_
    refine pz_iload hC dX8_perform_88 5 rfl ?_
    refine pz_Viw (As := [.int p2, .int p3, .int p4, .int p5]) hC hK dX8_perform_90 py_X3_part pv_X3_part lk_X8_114 hf (fun _ h => mX3_part h) rfl rfl (Nat.le_of_ble_eq_true rfl) ⟨by decide, by decide⟩ ⟨Nat.le_of_ble_eq_true rfl, Nat.le_of_ble_eq_true rfl⟩ (fun x6 hf => ?_)
    exact pz_zretw hC hK dX8_perform_93 hf
  refine pz_case (x := v2) (v := (5 : Int32)) hf (fun c8_5 hf => ?_) (fun c8_5 hf => ?_)
  · refine pz_tabI (tgt := 94) hC dX8_perform_8 c8_5 (by decide) (by decide) rfl rfl ?_
    refine pz_aload_n hC dX8_perform_94 1 rfl ?_
    refine pz_getR hC dX8_perform_95 fa_X8_118 hf (fun v7 hf => ?_)
    refine pz_iload_n hC dX8_perform_98 2 rfl ?_
    refine pz_iload_n hC dX8_perform_99 3 rfl ?_
    refine pz_Viw (As := [.int p2, .int p3]) hC hK dX8_perform_100 py_X2_tellYear pv_X2_tellYear lk_X8_122 hf (fun _ h => mX2_tellYear h) rfl rfl (Nat.le_of_ble_eq_true rfl) ⟨by decide, by decide⟩ ⟨Nat.le_of_ble_eq_true rfl, Nat.le_of_ble_eq_true rfl⟩ (fun x8 hf => ?_)
    exact pz_zretw hC hK dX8_perform_103 hf
  refine pz_case (x := v2) (v := (6 : Int32)) hf (fun c8_6 hf => ?_) (fun c8_6 hf => ?_)
  · refine pz_tabI (tgt := 104) hC dX8_perform_8 c8_6 (by decide) (by decide) rfl rfl ?_
    refine pz_aload_n hC dX8_perform_104 1 rfl ?_
    refine pz_iconst (v := (4 : Int32)) hC dX8_perform_105 (by decide) ?_
    refine pz_iload_n hC dX8_perform_106 2 rfl ?_
    refine pz_iload_n hC dX8_perform_107 3 rfl ?_
    refine pz_Viw (As := [.int (4 : Int32), .int p2, .int p3]) hC hK dX8_perform_108 py_X3_alter pv_X3_alter lk_X8_127 hf (fun _ h => mX3_alter h) rfl rfl (Nat.le_of_ble_eq_true rfl) ⟨by decide, by decide⟩ ⟨Nat.le_of_ble_eq_true rfl, Nat.le_of_ble_eq_true rfl⟩ (fun x9 hf => ?_)
    exact pz_zretw hC hK dX8_perform_111 hf
  refine pz_case (x := v2) (v := (7 : Int32)) hf (fun c8_7 hf => ?_) (fun c8_7 hf => ?_)
  · refine pz_tabI (tgt := 112) hC dX8_perform_8 c8_7 (by decide) (by decide) rfl rfl ?_
    refine pz_aload_n hC dX8_perform_112 1 rfl ?_
    refine pz_iconst (v := (5 : Int32)) hC dX8_perform_113 (by decide) ?_
    refine pz_iload_n hC dX8_perform_114 2 rfl ?_
    refine pz_iload_n hC dX8_perform_115 3 rfl ?_
    refine pz_Viw (As := [.int (5 : Int32), .int p2, .int p3]) hC hK dX8_perform_116 py_X3_alter pv_X3_alter lk_X8_127 hf (fun _ h => mX3_alter h) rfl rfl (Nat.le_of_ble_eq_true rfl) ⟨by decide, by decide⟩ ⟨Nat.le_of_ble_eq_true rfl, Nat.le_of_ble_eq_true rfl⟩ (fun x10 hf => ?_)
    exact pz_zretw hC hK dX8_perform_119 hf
  refine pz_case (x := v2) (v := (8 : Int32)) hf (fun c8_8 hf => ?_) (fun c8_8 hf => ?_)
  · refine pz_tabI (tgt := 120) hC dX8_perform_8 c8_8 (by decide) (by decide) rfl rfl ?_
    refine pz_aload_n hC dX8_perform_120 1 rfl ?_
    refine pz_bipush (v := (6 : Int32)) hC dX8_perform_121 (by decide) ?_
    refine pz_iconst (v := (0 : Int32)) hC dX8_perform_123 (by decide) ?_
    refine pz_iload_n hC dX8_perform_124 2 rfl ?_
    refine pz_Viw (As := [.int (6 : Int32), .int (0 : Int32), .int p2]) hC hK dX8_perform_125 py_X3_alter pv_X3_alter lk_X8_127 hf (fun _ h => mX3_alter h) rfl rfl (Nat.le_of_ble_eq_true rfl) ⟨by decide, by decide⟩ ⟨Nat.le_of_ble_eq_true rfl, Nat.le_of_ble_eq_true rfl⟩ (fun x11 hf => ?_)
    exact pz_zretw hC hK dX8_perform_128 hf
  refine pz_case (x := v2) (v := (9 : Int32)) hf (fun c8_9 hf => ?_) (fun c8_9 hf => ?_)
  · refine pz_tabI (tgt := 129) hC dX8_perform_8 c8_9 (by decide) (by decide) rfl rfl ?_
    refine pz_aload_n hC dX8_perform_129 1 rfl ?_
    refine pz_iconst (v := (0 : Int32)) hC dX8_perform_130 (by decide) ?_
    refine pz_iconst (v := (0 : Int32)) hC dX8_perform_131 (by decide) ?_
    refine pz_iload_n hC dX8_perform_132 2 rfl ?_
    refine pz_Viw (As := [.int (0 : Int32), .int (0 : Int32), .int p2]) hC hK dX8_perform_133 py_X3_alter pv_X3_alter lk_X8_127 hf (fun _ h => mX3_alter h) rfl rfl (Nat.le_of_ble_eq_true rfl) ⟨by decide, by decide⟩ ⟨Nat.le_of_ble_eq_true rfl, Nat.le_of_ble_eq_true rfl⟩ (fun x12 hf => ?_)
    exact pz_zretw hC hK dX8_perform_136 hf
  have ec8_1 : ¬ v2.toInt = 1 := lv_neT c8_1 rfl
  have ec8_2 : ¬ v2.toInt = 2 := lv_neT c8_2 rfl
  have ec8_3 : ¬ v2.toInt = 3 := lv_neT c8_3 rfl
  have ec8_4 : ¬ v2.toInt = 4 := lv_neT c8_4 rfl
  have ec8_5 : ¬ v2.toInt = 5 := lv_neT c8_5 rfl
  have ec8_6 : ¬ v2.toInt = 6 := lv_neT c8_6 rfl
  have ec8_7 : ¬ v2.toInt = 7 := lv_neT c8_7 rfl
  have ec8_8 : ¬ v2.toInt = 8 := lv_neT c8_8 rfl
  have ec8_9 : ¬ v2.toInt = 9 := lv_neT c8_9 rfl
  refine pz_tabO (tgt := 137) hC dX8_perform_8 (by omega) rfl ?_
  refine pz_aload_n hC dX8_perform_137 1 rfl ?_
  refine pz_bipush (v := (10 : Int32)) hC dX8_perform_138 (by decide) ?_
  refine pz_aload_n hC dX8_perform_140 0 rfl ?_
  refine pz_getSI (ci := 100) (j := 1) hC dX8_perform_141 (by decide) (Or.inl sl_X8_71) hf (fun v13 hf => ?_)
  refine pz_iadd hC dX8_perform_144 ?_
  refine pz_bipush (v := (8 : Int32)) hC dX8_perform_145 (by decide) ?_
  refine pz_isub hC dX8_perform_147 ?_
  refine pz_iconst (v := (0 : Int32)) hC dX8_perform_148 (by decide) ?_
  refine pz_iload_n hC dX8_perform_149 2 rfl ?_
  refine pz_Viw (As := [.int (((10 : Int32) + v13) - (8 : Int32)), .int (0 : Int32), .int p2]) hC hK dX8_perform_150 py_X3_alter pv_X3_alter lk_X8_127 hf (fun _ h => mX3_alter h) rfl rfl (Nat.le_of_ble_eq_true rfl) ⟨by decide, by decide⟩ ⟨Nat.le_of_ble_eq_true rfl, Nat.le_of_ble_eq_true rfl⟩ (fun x14 hf => ?_)
  exact pz_zretw hC hK dX8_perform_153 hf
def fnX8_slot (f : pz_H) (a0 : Nat) (p1 : Int32) : Option Int32 :=
  (pz_is f a0 100).bind fun _ =>
  if p1 = (0 : Int32) then (pz_gI f a0 100 1).bind fun v1 =>
  some v1 else
  if p1 = (1 : Int32) then (pz_gI f a0 100 2).bind fun v2 =>
  some v2 else
  if p1 = (2 : Int32) then (pz_gI f a0 100 3).bind fun v3 =>
  some v3 else
  if p1 = (3 : Int32) then (pz_gI f a0 100 4).bind fun v4 =>
  some v4 else
  some ((0 : Int32))
theorem mX8_slot {l : Launch} {G : pz_G} {f : pz_H} {a0 : Nat} {p1 : Int32} {r : Int32} (hf : fnX8_slot f a0 p1 = some r) : pz_Met l G yX8_slot cX8_slot 2 (some .int) 0 0 0 0 [.ref a0, .int p1] f (some (.int r)) f ∧ pz_is f a0 100 = some () := by
  unfold fnX8_slot at hf
  obtain ⟨_, h0, hf⟩ := pz_bd hf
  refine ⟨pz_enter (by decide +kernel) (Nat.le_of_ble_eq_true rfl) (fun C hl hC hK hnm => ?_), h0⟩
  subst hl
  refine pz_sub (lv' := [(0, .ref a0), (1, .int p1)]) [0, 1] rfl ?_
  refine pz_iload_n hC dX8_slot_0 1 rfl ?_
  refine pz_case (x := p1) (v := (0 : Int32)) hf (fun c1_0 hf => ?_) (fun c1_0 hf => ?_)
  · refine pz_tabI (tgt := 32) hC dX8_slot_1 c1_0 (by decide) (by decide) rfl rfl ?_
    refine pz_aload_n hC dX8_slot_32 0 rfl ?_
    refine pz_getSI (ci := 100) (j := 1) hC dX8_slot_33 (by decide) (Or.inl sl_X8_71) hf (fun v1 hf => ?_)
    exact pz_iret hC hK dX8_slot_36 hf
  refine pz_case (x := p1) (v := (1 : Int32)) hf (fun c1_1 hf => ?_) (fun c1_1 hf => ?_)
  · refine pz_tabI (tgt := 37) hC dX8_slot_1 c1_1 (by decide) (by decide) rfl rfl ?_
    refine pz_aload_n hC dX8_slot_37 0 rfl ?_
    refine pz_getSI (ci := 100) (j := 2) hC dX8_slot_38 (by decide) (Or.inl sl_X8_75) hf (fun v2 hf => ?_)
    exact pz_iret hC hK dX8_slot_41 hf
  refine pz_case (x := p1) (v := (2 : Int32)) hf (fun c1_2 hf => ?_) (fun c1_2 hf => ?_)
  · refine pz_tabI (tgt := 42) hC dX8_slot_1 c1_2 (by decide) (by decide) rfl rfl ?_
    refine pz_aload_n hC dX8_slot_42 0 rfl ?_
    refine pz_getSI (ci := 100) (j := 3) hC dX8_slot_43 (by decide) (Or.inl sl_X8_78) hf (fun v3 hf => ?_)
    exact pz_iret hC hK dX8_slot_46 hf
  refine pz_case (x := p1) (v := (3 : Int32)) hf (fun c1_3 hf => ?_) (fun c1_3 hf => ?_)
  · refine pz_tabI (tgt := 47) hC dX8_slot_1 c1_3 (by decide) (by decide) rfl rfl ?_
    refine pz_aload_n hC dX8_slot_47 0 rfl ?_
    refine pz_getSI (ci := 100) (j := 4) hC dX8_slot_48 (by decide) (Or.inl sl_X8_81) hf (fun v4 hf => ?_)
    exact pz_iret hC hK dX8_slot_51 hf
  have ec1_0 : ¬ p1.toInt = 0 := lv_neT c1_0 rfl
  have ec1_1 : ¬ p1.toInt = 1 := lv_neT c1_1 rfl
  have ec1_2 : ¬ p1.toInt = 2 := lv_neT c1_2 rfl
  have ec1_3 : ¬ p1.toInt = 3 := lv_neT c1_3 rfl
  refine pz_tabO (tgt := 52) hC dX8_slot_1 (by omega) rfl ?_
  refine pz_iconst (v := (0 : Int32)) hC dX8_slot_52 (by decide) ?_
  exact pz_iret hC hK dX8_slot_53 hf
def fX4_readStatement_147 (f : pz_H) : Option pz_H :=
  some f
theorem tX4_readStatement_147 {G : pz_G} {C : pz_C} {f : pz_H} {r : pz_H} (hC : pz_OK G C cX4_readStatement 5 RX4) (hK : pz_K C none 7 151 0 0) (hf : fX4_readStatement_147 f = some r) : pz_W G C 5 147 [] [] f 0 0 (pz_Q G C none r 0 0) := by
  unfold fX4_readStatement_147 at hf
  exact pz_vret hC hK dX4_readStatement_147 hf
def fX4_readStatement_136 (f : pz_H) (l0 : Nat) : Option pz_H :=
  (pz_gI f l0 3 7).bind fun v1 =>
  if v1 = 0 then (fnX4_readToken f l0).bind fun x2 =>
  fX4_readStatement_147 x2 else
  fX4_readStatement_147 f
theorem tX4_readStatement_136 {G : pz_G} {C : pz_C} {f : pz_H} {l0 : Nat} {r : pz_H} (hC : pz_OK G C cX4_readStatement 5 RX4) (hK : pz_K C none 7 151 0 0) (hf : fX4_readStatement_136 f l0 = some r) : pz_W G C 5 136 [(0, .ref l0)] [] f 0 0 (pz_Q G C none r 0 0) := by
  unfold fX4_readStatement_136 at hf
  refine pz_aload_n hC dX4_readStatement_136 0 rfl ?_
  refine pz_getI hC dX4_readStatement_137 fa_X4_26 hf (fun v1 hf => ?_)
  refine pz_if_ne hC dX4_readStatement_140 hf (fun _ hf => ?_) (fun _ hf => ?_)
  · refine pz_sub [] rfl ?_
    exact tX4_readStatement_147 hC hK hf
  · refine pz_aload_n hC dX4_readStatement_143 0 rfl ?_
    refine pz_Vv (As := []) hC hK dX4_readStatement_144 py_X4_readToken pv_X4_readToken lk_X4_29 hf (fun _ h => mX4_readToken h) rfl rfl (Nat.le_of_ble_eq_true rfl) ⟨by decide, by decide⟩ ⟨Nat.le_of_ble_eq_true rfl, Nat.le_of_ble_eq_true rfl⟩ (fun x2 hf => ?_)
    refine pz_sub [] rfl ?_
    exact tX4_readStatement_147 hC hK hf
def fX4_readStatement_87 (f : pz_H) (l0 : Nat) (l1 : Nat) (l2 : Int32) (l3 : Nat) : Option pz_H :=
  (fnX4_readClose f l0).bind fun x1 =>
  (pz_gI x1 l0 3 7).bind fun v2 =>
  if v2 = 0 then (pz_gR x1 l0 3 6).bind fun v3 =>
  (pz_aI x1 v3 0 ((0 : Int32))).bind fun v4 =>
  (pz_gR x1 l0 3 6).bind fun v5 =>
  (pz_aI x1 v5 0 ((1 : Int32))).bind fun v6 =>
  (pz_gR x1 l0 3 6).bind fun v7 =>
  (pz_aI x1 v7 0 ((2 : Int32))).bind fun v8 =>
  (pz_gR x1 l0 3 6).bind fun v9 =>
  (pz_aI x1 v9 0 ((3 : Int32))).bind fun v10 =>
  (fnX8_perform x1 l3 l1 v4 v6 v8 v10).bind fun x11 =>
  if x11.1 = 0 then (fnX4_blame x11.2 l0 ((4 : Int32)) l2).bind fun x12 =>
  fX4_readStatement_136 x12 l0 else
  fX4_readStatement_136 x11.2 l0 else
  fX4_readStatement_136 x1 l0
theorem tX4_readStatement_87 {G : pz_G} {C : pz_C} {f : pz_H} {l0 : Nat} {l1 : Nat} {l2 : Int32} {l3 : Nat} {r : pz_H} (hC : pz_OK G C cX4_readStatement 5 RX4) (hK : pz_K C none 7 151 0 0) (hf : fX4_readStatement_87 f l0 l1 l2 l3 = some r) : pz_W G C 5 87 [(0, .ref l0), (1, .ref l1), (2, .int l2), (3, .ref l3)] [] f 0 0 (pz_Q G C none r 0 0) := by
  unfold fX4_readStatement_87 at hf
  refine pz_aload_n hC dX4_readStatement_87 0 rfl ?_
  refine pz_Vv (As := []) hC hK dX4_readStatement_88 py_X4_readClose pv_X4_readClose lk_X4_64 hf (fun _ h => mX4_readClose h) rfl rfl (Nat.le_of_ble_eq_true rfl) ⟨by decide, by decide⟩ ⟨Nat.le_of_ble_eq_true rfl, Nat.le_of_ble_eq_true rfl⟩ (fun x1 hf => ?_)
  refine pz_aload_n hC dX4_readStatement_91 0 rfl ?_
  refine pz_getI hC dX4_readStatement_92 fa_X4_26 hf (fun v2 hf => ?_)
  refine pz_if_ne hC dX4_readStatement_95 hf (fun _ hf => ?_) (fun _ hf => ?_)
  · refine pz_sub [0] rfl ?_
    exact tX4_readStatement_136 hC hK hf
  · refine pz_aload_n hC dX4_readStatement_98 3 rfl ?_
    refine pz_aload_n hC dX4_readStatement_99 1 rfl ?_
    refine pz_aload_n hC dX4_readStatement_100 0 rfl ?_
    refine pz_getR hC dX4_readStatement_101 fa_X4_19 hf (fun v3 hf => ?_)
    refine pz_iconst (v := (0 : Int32)) hC dX4_readStatement_104 (by decide) ?_
    refine pz_iald hC dX4_readStatement_105 hf (fun v4 hf => ?_)
    refine pz_aload_n hC dX4_readStatement_106 0 rfl ?_
    refine pz_getR hC dX4_readStatement_107 fa_X4_19 hf (fun v5 hf => ?_)
    refine pz_iconst (v := (1 : Int32)) hC dX4_readStatement_110 (by decide) ?_
    refine pz_iald hC dX4_readStatement_111 hf (fun v6 hf => ?_)
    refine pz_aload_n hC dX4_readStatement_112 0 rfl ?_
    refine pz_getR hC dX4_readStatement_113 fa_X4_19 hf (fun v7 hf => ?_)
    refine pz_iconst (v := (2 : Int32)) hC dX4_readStatement_116 (by decide) ?_
    refine pz_iald hC dX4_readStatement_117 hf (fun v8 hf => ?_)
    refine pz_aload_n hC dX4_readStatement_118 0 rfl ?_
    refine pz_getR hC dX4_readStatement_119 fa_X4_19 hf (fun v9 hf => ?_)
    refine pz_iconst (v := (3 : Int32)) hC dX4_readStatement_122 (by decide) ?_
    refine pz_iald hC dX4_readStatement_123 hf (fun v10 hf => ?_)
    refine pz_Viw (As := [.ref l1, .int v4, .int v6, .int v8, .int v10]) hC hK dX4_readStatement_124 py_X8_perform pv_X8_perform lk_X4_67 hf (fun _ h => mX8_perform h) rfl rfl (Nat.le_of_ble_eq_true rfl) ⟨by decide, by decide⟩ ⟨Nat.le_of_ble_eq_true rfl, Nat.le_of_ble_eq_true rfl⟩ (fun x11 hf => ?_)
    refine pz_if_ne hC dX4_readStatement_127 hf (fun _ hf => ?_) (fun _ hf => ?_)
    · refine pz_sub [0] rfl ?_
      exact tX4_readStatement_136 hC hK hf
    · refine pz_aload_n hC dX4_readStatement_130 0 rfl ?_
      refine pz_iconst (v := (4 : Int32)) hC dX4_readStatement_131 (by decide) ?_
      refine pz_iload_n hC dX4_readStatement_132 2 rfl ?_
      refine pz_Vv (As := [.int (4 : Int32), .int l2]) hC hK dX4_readStatement_133 py_X4_blame pv_X4_blame lk_X4_46 hf (fun _ h => mX4_blame h) rfl rfl (Nat.le_of_ble_eq_true rfl) ⟨by decide, by decide⟩ ⟨Nat.le_of_ble_eq_true rfl, Nat.le_of_ble_eq_true rfl⟩ (fun x12 hf => ?_)
      refine pz_sub [0] rfl ?_
      exact tX4_readStatement_136 hC hK hf
def fX4_readStatement_51b (k51 : pz_H → Nat → Nat → Int32 → Nat → Int32 → Option pz_H) (f : pz_H) (l0 : Nat) (l1 : Nat) (l2 : Int32) (l3 : Nat) (l4 : Int32) : Option pz_H :=
  (pz_gR f l0 3 6).bind fun v1 =>
  (pz_ln f v1 0).bind fun v2 =>
  if v2 ≤ l4 then fX4_readStatement_87 f l0 l1 l2 l3 else
  (pz_gI f l0 3 7).bind fun v3 =>
  if v3 = 0 then (fnX8_slot f l3 l4).bind fun x4 =>
  (fnX4_readSlot f l0 l1 x4 l4).bind fun x5 =>
  k51 x5 l0 l1 l2 l3 ((l4 + 1)) else
  fX4_readStatement_87 f l0 l1 l2 l3
theorem tX4_readStatement_51b {G : pz_G} {C : pz_C} {f : pz_H} {k51 : pz_H → Nat → Nat → Int32 → Nat → Int32 → Option pz_H} {l0 : Nat} {l1 : Nat} {l2 : Int32} {l3 : Nat} {l4 : Int32} {r : pz_H} (hC : pz_OK G C cX4_readStatement 5 RX4) (hK : pz_K C none 7 151 0 0) (hk51 : ∀ (g : pz_H) (a0 : Nat) (a1 : Nat) (a2 : Int32) (a3 : Nat) (a4 : Int32), k51 g a0 a1 a2 a3 a4 = some r → pz_W G C 5 51 [(0, .ref a0), (1, .ref a1), (2, .int a2), (3, .ref a3), (4, .int a4)] [] g 0 0 (pz_Q G C none r 0 0)) (hf : fX4_readStatement_51b k51 f l0 l1 l2 l3 l4 = some r) : pz_W G C 5 51 [(0, .ref l0), (1, .ref l1), (2, .int l2), (3, .ref l3), (4, .int l4)] [] f 0 0 (pz_Q G C none r 0 0) := by
  unfold fX4_readStatement_51b at hf
  refine pz_iload hC dX4_readStatement_51 4 rfl ?_
  refine pz_aload_n hC dX4_readStatement_53 0 rfl ?_
  refine pz_getR hC dX4_readStatement_54 fa_X4_19 hf (fun v1 hf => ?_)
  refine pz_alen hC dX4_readStatement_57 (fun _ => rfl) (by decide) hf (fun v2 hf => ?_)
  refine pz_icmp_ge hC dX4_readStatement_58 hf (fun _ hf => ?_) (fun _ hf => ?_)
  · refine pz_sub [0, 1, 2, 3] rfl ?_
    exact tX4_readStatement_87 hC hK hf
  · refine pz_aload_n hC dX4_readStatement_61 0 rfl ?_
    refine pz_getI hC dX4_readStatement_62 fa_X4_26 hf (fun v3 hf => ?_)
    refine pz_if_ne hC dX4_readStatement_65 hf (fun _ hf => ?_) (fun _ hf => ?_)
    · refine pz_sub [0, 1, 2, 3] rfl ?_
      exact tX4_readStatement_87 hC hK hf
    · refine pz_aload_n hC dX4_readStatement_68 0 rfl ?_
      refine pz_aload_n hC dX4_readStatement_69 1 rfl ?_
      refine pz_aload_n hC dX4_readStatement_70 3 rfl ?_
      refine pz_iload hC dX4_readStatement_71 4 rfl ?_
      refine pz_Vi (As := [.int l4]) hC hK dX4_readStatement_73 py_X8_slot pv_X8_slot lk_X4_56 hf (fun _ h => mX8_slot h) rfl rfl (Nat.le_of_ble_eq_true rfl) ⟨by decide, by decide⟩ ⟨Nat.le_of_ble_eq_true rfl, Nat.le_of_ble_eq_true rfl⟩ (fun x4 hf => ?_)
      refine pz_iload hC dX4_readStatement_76 4 rfl ?_
      refine pz_Vv (As := [.ref l1, .int x4, .int l4]) hC hK dX4_readStatement_78 py_X4_readSlot pv_X4_readSlot lk_X4_60 hf (fun _ h => mX4_readSlot h) rfl rfl (Nat.le_of_ble_eq_true rfl) ⟨by decide, by decide⟩ ⟨Nat.le_of_ble_eq_true rfl, Nat.le_of_ble_eq_true rfl⟩ (fun x5 hf => ?_)
      refine pz_iinc (v := (l4 + 1)) hC dX4_readStatement_81 4 rfl rfl (by decide) rfl ?_
      refine pz_goto hC dX4_readStatement_84 ?_
      refine pz_sub [1, 2, 3, 4, 0] rfl ?_
      exact hk51 _ _ _ _ _ _ hf
def fX4_readStatement_51 : Nat → pz_H → Nat → Nat → Int32 → Nat → Int32 → Option pz_H
  | 0, _, _, _, _, _, _ => none
  | n + 1, f, l0, l1, l2, l3, l4 => fX4_readStatement_51b (fX4_readStatement_51 n) f l0 l1 l2 l3 l4
theorem tX4_readStatement_51 {G : pz_G} {C : pz_C} {r : pz_H} (hC : pz_OK G C cX4_readStatement 5 RX4) (hK : pz_K C none 7 151 0 0) : ∀ (N : Nat) (f : pz_H) (l0 : Nat) (l1 : Nat) (l2 : Int32) (l3 : Nat) (l4 : Int32), fX4_readStatement_51 N f l0 l1 l2 l3 l4 = some r → pz_W G C 5 51 [(0, .ref l0), (1, .ref l1), (2, .int l2), (3, .ref l3), (4, .int l4)] [] f 0 0 (pz_Q G C none r 0 0) := by
  intro N
  induction N with
  | zero => intro f l0 l1 l2 l3 l4 hf; cases hf
  | succ N ih => intro f l0 l1 l2 l3 l4 hf; exact tX4_readStatement_51b hC hK (fun f l0 l1 l2 l3 l4 hf => ih f l0 l1 l2 l3 l4 hf) hf
def fX4_readStatement_21 (f : pz_H) (l0 : Nat) (l1 : Nat) (l2 : Int32) (s0 : Option Nat) : Option pz_H :=
  match s0 with
  | none => (fnX4_blame f l0 ((1 : Int32)) l2).bind fun x1 =>
  some x1
  | some s0v => (fnX8_isFull f s0v l1).bind fun x2 =>
  if x2 = 0 then fX4_readStatement_51 pz_F f l0 l1 l2 s0v ((0 : Int32)) else
  (fnX4_blame f l0 ((3 : Int32)) l2).bind fun x3 =>
  some x3
theorem tX4_readStatement_21 {G : pz_G} {C : pz_C} {f : pz_H} {l0 : Nat} {l1 : Nat} {l2 : Int32} {s0 : Option Nat} {r : pz_H} (hC : pz_OK G C cX4_readStatement 5 RX4) (hK : pz_K C none 7 151 0 0) (hf : fX4_readStatement_21 f l0 l1 l2 s0 = some r) : pz_W G C 5 21 [(0, .ref l0), (1, .ref l1), (2, .int l2)] [va_rf s0] f 0 0 (pz_Q G C none r 0 0) := by
  unfold fX4_readStatement_21 at hf
  cases s0 with
  | none =>
    dsimp only at hf
    refine pz_astore_nN hC dX4_readStatement_21 (by decide) rfl ?_
    refine pz_aload_nN hC dX4_readStatement_22 0 rfl ?_
    refine pz_ifnonnullN hC dX4_readStatement_23 ?_
    refine pz_aload_n hC dX4_readStatement_26 1 rfl ?_
    refine pz_iconst (v := (1 : Int32)) hC dX4_readStatement_27 (by decide) ?_
    refine pz_iload_n hC dX4_readStatement_28 3 rfl ?_
    refine pz_Vv (As := [.int (1 : Int32), .int l2]) hC hK dX4_readStatement_29 py_X4_blame pv_X4_blame lk_X4_46 hf (fun _ h => mX4_blame h) rfl rfl (Nat.le_of_ble_eq_true rfl) ⟨by decide, by decide⟩ ⟨Nat.le_of_ble_eq_true rfl, Nat.le_of_ble_eq_true rfl⟩ (fun x1 hf => ?_)
    exact pz_vret hC hK dX4_readStatement_32 hf
  | some s0v =>
    dsimp only at hf
    refine pz_astore_n hC dX4_readStatement_21 (by decide) rfl ?_
    refine pz_aload_n hC dX4_readStatement_22 0 rfl ?_
    refine pz_ifnonnull hC dX4_readStatement_23 ?_
    refine pz_aload_n hC dX4_readStatement_33 0 rfl ?_
    refine pz_aload_n hC dX4_readStatement_34 2 rfl ?_
    refine pz_Vi (As := [.ref l1]) hC hK dX4_readStatement_35 py_X8_isFull pv_X8_isFull lk_X4_50 hf (fun _ h => mX8_isFull h) rfl rfl (Nat.le_of_ble_eq_true rfl) ⟨by decide, by decide⟩ ⟨Nat.le_of_ble_eq_true rfl, Nat.le_of_ble_eq_true rfl⟩ (fun x2 hf => ?_)
    refine pz_if_eq hC dX4_readStatement_38 hf (fun _ hf => ?_) (fun _ hf => ?_)
    · refine pz_iconst (v := (0 : Int32)) hC dX4_readStatement_48 (by decide) ?_
      refine pz_istore hC dX4_readStatement_49 (by decide) rfl ?_
      refine pz_sub [2, 3, 4, 1, 0] rfl ?_
      exact tX4_readStatement_51 hC hK _ _ _ _ _ _ _ hf
    · refine pz_aload_n hC dX4_readStatement_41 1 rfl ?_
      refine pz_iconst (v := (3 : Int32)) hC dX4_readStatement_42 (by decide) ?_
      refine pz_iload_n hC dX4_readStatement_43 3 rfl ?_
      refine pz_Vv (As := [.int (3 : Int32), .int l2]) hC hK dX4_readStatement_44 py_X4_blame pv_X4_blame lk_X4_46 hf (fun _ h => mX4_blame h) rfl rfl (Nat.le_of_ble_eq_true rfl) ⟨by decide, by decide⟩ ⟨Nat.le_of_ble_eq_true rfl, Nat.le_of_ble_eq_true rfl⟩ (fun x3 hf => ?_)
      exact pz_vret hC hK dX4_readStatement_47 hf
def fnX4_readStatement (f : pz_H) (a0 : Nat) (p1 : Nat) : Option pz_H :=
  (pz_is f a0 3).bind fun _ =>
  (pz_gI f a0 3 4).bind fun v1 =>
  (pz_gI f a0 3 3).bind fun v2 =>
  if v2 = (1 : Int32) then (fnX4_verbHere f a0).bind fun x3 =>
  fX4_readStatement_21 f a0 p1 v1 x3 else
  fX4_readStatement_21 f a0 p1 v1 none
theorem mX4_readStatement {l : Launch} {G : pz_G} {f : pz_H} {a0 : Nat} {p1 : Nat} {r : pz_H} (hf : fnX4_readStatement f a0 p1 = some r) : pz_Met l G yX4_readStatement cX4_readStatement 5 none 7 151 0 0 [.ref a0, .ref p1] f none r ∧ pz_is f a0 3 = some () := by
  unfold fnX4_readStatement at hf
  obtain ⟨_, h0, hf⟩ := pz_bd hf
  refine ⟨pz_enter (by decide +kernel) (Nat.le_of_ble_eq_true rfl) (fun C hl hC hK hnm => ?_), h0⟩
  subst hl
  refine pz_sub (lv' := [(0, .ref a0), (1, .ref p1)]) [0, 1] rfl ?_
  refine pz_aload_n hC dX4_readStatement_0 0 rfl ?_
  refine pz_getI hC dX4_readStatement_1 fa_X4_39 hf (fun v1 hf => ?_)
  refine pz_istore_n hC dX4_readStatement_4 (by decide) rfl ?_
  refine pz_aload_n hC dX4_readStatement_5 1 rfl ?_
  refine pz_getI hC dX4_readStatement_6 fa_X4_32 hf (fun v2 hf => ?_)
  refine pz_iconst (v := (1 : Int32)) hC dX4_readStatement_9 (by decide) ?_
  refine pz_icmp_ne hC dX4_readStatement_10 hf (fun _ hf => ?_) (fun _ hf => ?_)
  · refine pz_null hC dX4_readStatement_20 ?_
    refine pz_sub [1, 2, 0] rfl ?_
    exact tX4_readStatement_21 (s0 := none) hC hK hf
  · refine pz_aload_n hC dX4_readStatement_13 1 rfl ?_
    refine pz_VO (As := []) hC hK dX4_readStatement_14 py_X4_verbHere pv_X4_verbHere lk_X4_42 hf (fun _ h => mX4_verbHere h) rfl rfl (Nat.le_of_ble_eq_true rfl) ⟨by decide, by decide⟩ ⟨Nat.le_of_ble_eq_true rfl, Nat.le_of_ble_eq_true rfl⟩ (fun x3 hf => ?_)
    refine pz_goto hC dX4_readStatement_17 ?_
    refine pz_sub [1, 2, 0] rfl ?_
    exact tX4_readStatement_21 (s0 := x3) hC hK hf
def fX4_readAll_48 (f : pz_H) (l2 : Int32) : Option (Int32 × pz_H) :=
  some (l2, f)
theorem tX4_readAll_48 {G : pz_G} {C : pz_C} {f : pz_H} {l2 : Int32} {r : (Int32 × pz_H)} (hC : pz_OK G C cX4_readAll 3 RX4) (hK : pz_K C (some .int) 8 175 0 0) (hf : fX4_readAll_48 f l2 = some r) : pz_W G C 3 48 [(2, .int l2)] [] f 0 0 (pz_Q G C (some (.int r.1)) r.2 0 0) := by
  unfold fX4_readAll_48 at hf
  refine pz_iload_n hC dX4_readAll_48 0 rfl ?_
  exact pz_iretw hC hK dX4_readAll_49 hf
def fX4_readAll_16b (k16 : pz_H → Nat → Nat → Int32 → Option (Int32 × pz_H)) (f : pz_H) (l0 : Nat) (l1 : Nat) (l2 : Int32) : Option (Int32 × pz_H) :=
  if (400 : Int32) ≤ l2 then fX4_readAll_48 f l2 else
  (pz_gI f l0 3 3).bind fun v1 =>
  if v1 = 0 then fX4_readAll_48 f l2 else
  (pz_gI f l0 3 7).bind fun v2 =>
  if v2 = 0 then (fnX4_readStatement f l0 l1).bind fun x3 =>
  k16 x3 l0 l1 ((l2 + 1)) else
  fX4_readAll_48 f l2
theorem tX4_readAll_16b {G : pz_G} {C : pz_C} {f : pz_H} {k16 : pz_H → Nat → Nat → Int32 → Option (Int32 × pz_H)} {l0 : Nat} {l1 : Nat} {l2 : Int32} {r : (Int32 × pz_H)} (hC : pz_OK G C cX4_readAll 3 RX4) (hK : pz_K C (some .int) 8 175 0 0) (hk16 : ∀ (g : pz_H) (a0 : Nat) (a1 : Nat) (a2 : Int32), k16 g a0 a1 a2 = some r → pz_W G C 3 16 [(0, .ref a0), (1, .ref a1), (2, .int a2)] [] g 0 0 (pz_Q G C (some (.int r.1)) r.2 0 0)) (hf : fX4_readAll_16b k16 f l0 l1 l2 = some r) : pz_W G C 3 16 [(0, .ref l0), (1, .ref l1), (2, .int l2)] [] f 0 0 (pz_Q G C (some (.int r.1)) r.2 0 0) := by
  unfold fX4_readAll_16b at hf
  refine pz_iload_n hC dX4_readAll_16 2 rfl ?_
  refine pz_sipush (v := (400 : Int32)) hC dX4_readAll_17 (by decide) ?_
  refine pz_icmp_ge hC dX4_readAll_20 hf (fun _ hf => ?_) (fun _ hf => ?_)
  · refine pz_sub [2] rfl ?_
    exact tX4_readAll_48 hC hK hf
  · refine pz_aload_n hC dX4_readAll_23 0 rfl ?_
    refine pz_getI hC dX4_readAll_24 fa_X4_32 hf (fun v1 hf => ?_)
    refine pz_if_eq hC dX4_readAll_27 hf (fun _ hf => ?_) (fun _ hf => ?_)
    · refine pz_sub [2] rfl ?_
      exact tX4_readAll_48 hC hK hf
    · refine pz_aload_n hC dX4_readAll_30 0 rfl ?_
      refine pz_getI hC dX4_readAll_31 fa_X4_26 hf (fun v2 hf => ?_)
      refine pz_if_ne hC dX4_readAll_34 hf (fun _ hf => ?_) (fun _ hf => ?_)
      · refine pz_sub [2] rfl ?_
        exact tX4_readAll_48 hC hK hf
      · refine pz_aload_n hC dX4_readAll_37 0 rfl ?_
        refine pz_aload_n hC dX4_readAll_38 1 rfl ?_
        refine pz_Vv (As := [.ref l1]) hC hK dX4_readAll_39 py_X4_readStatement pv_X4_readStatement lk_X4_35 hf (fun _ h => mX4_readStatement h) rfl rfl (Nat.le_of_ble_eq_true rfl) ⟨by decide, by decide⟩ ⟨Nat.le_of_ble_eq_true rfl, Nat.le_of_ble_eq_true rfl⟩ (fun x3 hf => ?_)
        refine pz_iinc (v := (l2 + 1)) hC dX4_readAll_42 2 rfl rfl (by decide) rfl ?_
        refine pz_goto hC dX4_readAll_45 ?_
        refine pz_sub [1, 2, 0] rfl ?_
        exact hk16 _ _ _ _ hf
def fX4_readAll_16 : Nat → pz_H → Nat → Nat → Int32 → Option (Int32 × pz_H)
  | 0, _, _, _, _ => none
  | n + 1, f, l0, l1, l2 => fX4_readAll_16b (fX4_readAll_16 n) f l0 l1 l2
theorem tX4_readAll_16 {G : pz_G} {C : pz_C} {r : (Int32 × pz_H)} (hC : pz_OK G C cX4_readAll 3 RX4) (hK : pz_K C (some .int) 8 175 0 0) : ∀ (N : Nat) (f : pz_H) (l0 : Nat) (l1 : Nat) (l2 : Int32), fX4_readAll_16 N f l0 l1 l2 = some r → pz_W G C 3 16 [(0, .ref l0), (1, .ref l1), (2, .int l2)] [] f 0 0 (pz_Q G C (some (.int r.1)) r.2 0 0) := by
  intro N
  induction N with
  | zero => intro f l0 l1 l2 hf; cases hf
  | succ N ih => intro f l0 l1 l2 hf; exact tX4_readAll_16b hC hK (fun f l0 l1 l2 hf => ih f l0 l1 l2 hf) hf
def fnX4_readAll (f : pz_H) (a0 : Nat) (p1 : Nat) : Option (Int32 × pz_H) :=
  (pz_is f a0 3).bind fun _ =>
  (pz_sV f a0 3 2 (.int (0 : Int32))).bind fun f1 =>
  (pz_sV f1 a0 3 7 (.int (0 : Int32))).bind fun f2 =>
  (fnX4_readToken f2 a0).bind fun x3 =>
  fX4_readAll_16 pz_F x3 a0 p1 ((0 : Int32))
theorem mX4_readAll {l : Launch} {G : pz_G} {f : pz_H} {a0 : Nat} {p1 : Nat} {r : (Int32 × pz_H)} (hf : fnX4_readAll f a0 p1 = some r) : pz_Met l G yX4_readAll cX4_readAll 3 (some .int) 8 175 0 0 [.ref a0, .ref p1] f (some (.int r.1)) r.2 ∧ pz_is f a0 3 = some () := by
  unfold fnX4_readAll at hf
  obtain ⟨_, h0, hf⟩ := pz_bd hf
  refine ⟨pz_enter (by decide +kernel) (Nat.le_of_ble_eq_true rfl) (fun C hl hC hK hnm => ?_), h0⟩
  subst hl
  refine pz_sub (lv' := [(0, .ref a0), (1, .ref p1)]) [0, 1] rfl ?_
  refine pz_aload_n hC dX4_readAll_0 0 rfl ?_
  refine pz_iconst (v := (0 : Int32)) hC dX4_readAll_1 (by decide) ?_
  refine pz_putV hC dX4_readAll_2 fp_X4_23 rfl rfl hf (fun f1 hf => ?_)
  refine pz_aload_n hC dX4_readAll_5 0 rfl ?_
  refine pz_iconst (v := (0 : Int32)) hC dX4_readAll_6 (by decide) ?_
  refine pz_putV hC dX4_readAll_7 fp_X4_26 rfl rfl hf (fun f2 hf => ?_)
  refine pz_iconst (v := (0 : Int32)) hC dX4_readAll_10 (by decide) ?_
  refine pz_istore_n hC dX4_readAll_11 (by decide) rfl ?_
  refine pz_aload_n hC dX4_readAll_12 1 rfl ?_
  refine pz_Vv (As := []) hC hK dX4_readAll_13 py_X4_readToken pv_X4_readToken lk_X4_29 hf (fun _ h => mX4_readToken h) rfl rfl (Nat.le_of_ble_eq_true rfl) ⟨by decide, by decide⟩ ⟨Nat.le_of_ble_eq_true rfl, Nat.le_of_ble_eq_true rfl⟩ (fun x3 hf => ?_)
  refine pz_sub [1, 2, 0] rfl ?_
  exact tX4_readAll_16 hC hK _ _ _ _ _ hf
def fnX5_init (f : pz_H) (a0 : Nat) : Option pz_H :=
  (pz_sV (pz_nw f (.inr (0, 1800, .inl (fun _ => 0)))) a0 4 0 (.ref f.2.2)).bind fun f1 =>
  (pz_sV (pz_nw f1 (.inr (0, 1800, .inl (fun _ => 0)))) a0 4 1 (.ref f1.2.2)).bind fun f2 =>
  (pz_sV (pz_nw f2 (.inr (0, 1800, .inl (fun _ => 0)))) a0 4 2 (.ref f2.2.2)).bind fun f3 =>
  (pz_sV (pz_nw f3 (.inr (0, 1800, .inl (fun _ => 0)))) a0 4 3 (.ref f3.2.2)).bind fun f4 =>
  (pz_sV (pz_nw f4 (.inr (1, 4, .inr (.inl (fun _ => 0))))) a0 4 4 (.ref f4.2.2)).bind fun f5 =>
  (fnX7_init (pz_nw f5 (.inl (6, [.int 0, .int 0, .int 0, .int 0, .int 0, .int 0, .int 0, .int 0, .int 0]))) f5.2.2).bind fun x6 =>
  (pz_sV x6 a0 4 5 (.ref f5.2.2)).bind fun f7 =>
  some f7
theorem mX5_init {l : Launch} {G : pz_G} {f : pz_H} {a0 : Nat} {r : pz_H} (hf : fnX5_init f a0 = some r) : pz_Met l G yX5_init cX5_init 1 none 2 40 6 7213 [.ref a0] f none r := by
  unfold fnX5_init at hf
  refine pz_enter (by decide +kernel) (Nat.le_of_ble_eq_true rfl) (fun C hl hC hK hnm => ?_)
  subst hl
  refine pz_sub (lv' := [(0, .ref a0)]) [0] rfl ?_
  refine pz_aload_n hC dX5_init_0 0 rfl ?_
  refine pz_objInit hC hK dX5_init_1 ol_X5_3 ob_inst ob_code (by decide) (Nat.le_of_ble_eq_true rfl) ?_
  refine pz_aload_n hC dX5_init_4 0 rfl ?_
  refine pz_sipush (v := (1800 : Int32)) hC dX5_init_5 (by decide) ?_
  refine pz_newa (atype := .int) (ty := .int) (t := 0) (N := 1800) (g := .inl (fun _ => 0)) (n' := 1) (k' := 1800) hC hK dX5_init_8 (by decide) ac_0 rfl (fun G U h => (h.2 0 _ rfl).2) (fun G cA h => ⟨(1800, .inl (fun _ => 0)), by rw [h]; rfl, rfl⟩) (by decide) (by decide +kernel) (by decide +kernel) rfl rfl ⟨Nat.le_of_ble_eq_true rfl, Nat.le_of_ble_eq_true rfl⟩ ?_
  refine pz_putF hC hnm dX5_init_10 fp_X5_9 (fun q h => by cases h; rfl) rfl rfl rfl hf (fun f1 hf => ?_)
  refine pz_aload_n hC dX5_init_13 0 rfl ?_
  refine pz_sipush (v := (1800 : Int32)) hC dX5_init_14 (by decide) ?_
  refine pz_newa (atype := .int) (ty := .int) (t := 0) (N := 1800) (g := .inl (fun _ => 0)) (n' := 2) (k' := 3600) hC hK dX5_init_17 (by decide) ac_0 rfl (fun G U h => (h.2 0 _ rfl).2) (fun G cA h => ⟨(1800, .inl (fun _ => 0)), by rw [h]; rfl, rfl⟩) (by decide) (by decide +kernel) (by decide +kernel) rfl rfl ⟨Nat.le_of_ble_eq_true rfl, Nat.le_of_ble_eq_true rfl⟩ ?_
  refine pz_putF hC hnm dX5_init_19 fp_X5_15 (fun q h => by cases h; rfl) rfl rfl rfl hf (fun f2 hf => ?_)
  refine pz_aload_n hC dX5_init_22 0 rfl ?_
  refine pz_sipush (v := (1800 : Int32)) hC dX5_init_23 (by decide) ?_
  refine pz_newa (atype := .int) (ty := .int) (t := 0) (N := 1800) (g := .inl (fun _ => 0)) (n' := 3) (k' := 5400) hC hK dX5_init_26 (by decide) ac_0 rfl (fun G U h => (h.2 0 _ rfl).2) (fun G cA h => ⟨(1800, .inl (fun _ => 0)), by rw [h]; rfl, rfl⟩) (by decide) (by decide +kernel) (by decide +kernel) rfl rfl ⟨Nat.le_of_ble_eq_true rfl, Nat.le_of_ble_eq_true rfl⟩ ?_
  refine pz_putF hC hnm dX5_init_28 fp_X5_18 (fun q h => by cases h; rfl) rfl rfl rfl hf (fun f3 hf => ?_)
  refine pz_aload_n hC dX5_init_31 0 rfl ?_
  refine pz_sipush (v := (1800 : Int32)) hC dX5_init_32 (by decide) ?_
  refine pz_newa (atype := .int) (ty := .int) (t := 0) (N := 1800) (g := .inl (fun _ => 0)) (n' := 4) (k' := 7200) hC hK dX5_init_35 (by decide) ac_0 rfl (fun G U h => (h.2 0 _ rfl).2) (fun G cA h => ⟨(1800, .inl (fun _ => 0)), by rw [h]; rfl, rfl⟩) (by decide) (by decide +kernel) (by decide +kernel) rfl rfl ⟨Nat.le_of_ble_eq_true rfl, Nat.le_of_ble_eq_true rfl⟩ ?_
  refine pz_putF hC hnm dX5_init_37 fp_X5_21 (fun q h => by cases h; rfl) rfl rfl rfl hf (fun f4 hf => ?_)
  refine pz_aload_n hC dX5_init_40 0 rfl ?_
  refine pz_iconst (v := (4 : Int32)) hC dX5_init_41 (by decide) ?_
  refine pz_newa (atype := .long) (ty := .long) (t := 1) (N := 4) (g := .inr (.inl (fun _ => 0))) (n' := 5) (k' := 7204) hC hK dX5_init_42 (by decide) ac_1 rfl (fun G U h => (h.2 1 _ rfl).2) (fun G cA h => ⟨(4, .inr (.inl (fun _ => 0))), by rw [h]; rfl, rfl⟩) (by decide) (by decide +kernel) (by decide +kernel) rfl rfl ⟨Nat.le_of_ble_eq_true rfl, Nat.le_of_ble_eq_true rfl⟩ ?_
  refine pz_putF hC hnm dX5_init_44 fp_X5_24 (fun q h => by cases h; rfl) rfl rfl rfl hf (fun f5 hf => ?_)
  refine pz_aload_n hC dX5_init_47 0 rfl ?_
  refine pz_new (ci := 6) (fs := [.int 0, .int 0, .int 0, .int 0, .int 0, .int 0, .int 0, .int 0, .int 0]) (ty := tyX7) (T := TX7) (n' := 6) (k' := 7213) hC hK dX5_init_48 rfl pz_wsX7 tyX7_ok (List.mem_of_getElem? (i := 364) (by decide +kernel)) (List.mem_of_getElem? (i := 201) (by decide +kernel)) (List.mem_of_getElem? (i := 124) (by decide +kernel)) (by decide +kernel) rfl rfl ⟨Nat.le_of_ble_eq_true rfl, Nat.le_of_ble_eq_true rfl⟩ ?_
  refine pz_dup hC dX5_init_51 rfl ?_
  refine pz_Iv (As := []) hC hK dX5_init_52 py_X7_init pi_X7_init lk_X5_30 hf (fun _ h => mX7_init h) rfl rfl (Nat.le_of_ble_eq_true rfl) ⟨by decide, by decide⟩ ⟨Nat.le_of_ble_eq_true rfl, Nat.le_of_ble_eq_true rfl⟩ (n' := 6) (k' := 7213) rfl rfl (fun x6 hf => ?_)
  refine pz_putF hC hnm dX5_init_55 fp_X5_31 (fun q h => by cases h; rfl) rfl rfl rfl hf (fun f7 hf => ?_)
  exact pz_vret hC hK dX5_init_58 hf
def fX5_fillWholes_79 (k5 : pz_H → Nat → Nat → Int64 → Int32 → Option pz_H) (f : pz_H) (l0 : Nat) (l1 : Nat) (l2 : Int64) (l4 : Int32) : Option pz_H :=
  (pz_gR f l0 4 0).bind fun v1 =>
  (pz_tI f v1 0 l4 l2.toInt32).bind fun f2 =>
  k5 f2 l0 l1 l2 ((l4 + 1))
theorem tX5_fillWholes_79 {G : pz_G} {C : pz_C} {f : pz_H} {k5 : pz_H → Nat → Nat → Int64 → Int32 → Option pz_H} {l0 : Nat} {l1 : Nat} {l2 : Int64} {l4 : Int32} {r : pz_H} (hC : pz_OK G C cX5_fillWholes 5 RX5) (hK : pz_K C none 3 68 0 0) (hk5 : ∀ (g : pz_H) (a0 : Nat) (a1 : Nat) (a2 : Int64) (a4 : Int32), k5 g a0 a1 a2 a4 = some r → pz_W G C 5 5 [(0, .ref a0), (1, .ref a1), (2, .long a2), (4, .int a4)] [] g 0 0 (pz_Q G C none r 0 0)) (hf : fX5_fillWholes_79 k5 f l0 l1 l2 l4 = some r) : pz_W G C 5 79 [(0, .ref l0), (1, .ref l1), (2, .long l2), (4, .int l4)] [] f 0 0 (pz_Q G C none r 0 0) := by
  unfold fX5_fillWholes_79 at hf
  refine pz_aload_n hC dX5_fillWholes_79 0 rfl ?_
  refine pz_getR hC dX5_fillWholes_80 fa_X5_9 hf (fun v1 hf => ?_)
  refine pz_iload hC dX5_fillWholes_83 3 rfl ?_
  refine pz_lload_n hC dX5_fillWholes_85 2 rfl ?_
  refine pz_l2i hC dX5_fillWholes_86 ?_
  refine pz_iast hC dX5_fillWholes_87 hf (fun f2 hf => ?_)
  refine pz_iinc (v := (l4 + 1)) hC dX5_fillWholes_88 3 rfl rfl (by decide) rfl ?_
  refine pz_goto hC dX5_fillWholes_91 ?_
  refine pz_sub [1, 2, 3, 0] rfl ?_
  exact hk5 _ _ _ _ _ hf
def fX5_fillWholes_5b (k5 : pz_H → Nat → Nat → Int64 → Int32 → Option pz_H) (f : pz_H) (l0 : Nat) (l1 : Nat) (l2 : Int64) (l4 : Int32) : Option pz_H :=
  if (1800 : Int32) ≤ l4 then some f else
  (pz_gI f l1 2 1).bind fun v1 =>
  if l4 = v1 then (fnX3_firstPay f l1).bind fun x7 =>
  fX5_fillWholes_79 k5 f l0 l1 x7.toInt64 l4 else
  (pz_gI f l1 2 1).bind fun v2 =>
  if v2 = ((-1) : Int32) then fX5_fillWholes_79 k5 f l0 l1 l2 l4 else
  (pz_gI f l1 2 1).bind fun v3 =>
  if l4 ≤ v3 then fX5_fillWholes_79 k5 f l0 l1 l2 l4 else
  (pz_gI f l1 2 1).bind fun v4 =>
  if ((l4 - v4) - (l4 - v4) / (12 : Int32) * (12 : Int32)) = 0 then (pz_gR f l1 2 3).bind fun v5 =>
  (pz_aI f v5 0 ((3 : Int32))).bind fun v6 =>
  fX5_fillWholes_79 k5 f l0 l1 (((l2 * (((1000 : Int32) + v6)).toInt64) / (1000 : Int64))) l4 else
  fX5_fillWholes_79 k5 f l0 l1 l2 l4
theorem tX5_fillWholes_5b {G : pz_G} {C : pz_C} {f : pz_H} {k5 : pz_H → Nat → Nat → Int64 → Int32 → Option pz_H} {l0 : Nat} {l1 : Nat} {l2 : Int64} {l4 : Int32} {r : pz_H} (hC : pz_OK G C cX5_fillWholes 5 RX5) (hK : pz_K C none 3 68 0 0) (hk5 : ∀ (g : pz_H) (a0 : Nat) (a1 : Nat) (a2 : Int64) (a4 : Int32), k5 g a0 a1 a2 a4 = some r → pz_W G C 5 5 [(0, .ref a0), (1, .ref a1), (2, .long a2), (4, .int a4)] [] g 0 0 (pz_Q G C none r 0 0)) (hf : fX5_fillWholes_5b k5 f l0 l1 l2 l4 = some r) : pz_W G C 5 5 [(0, .ref l0), (1, .ref l1), (2, .long l2), (4, .int l4)] [] f 0 0 (pz_Q G C none r 0 0) := by
  unfold fX5_fillWholes_5b at hf
  refine pz_iload hC dX5_fillWholes_5 3 rfl ?_
  refine pz_sipush (v := (1800 : Int32)) hC dX5_fillWholes_7 (by decide) ?_
  refine pz_icmp_ge hC dX5_fillWholes_10 hf (fun _ hf => ?_) (fun _ hf => ?_)
  · exact pz_vret hC hK dX5_fillWholes_94 hf
  · refine pz_iload hC dX5_fillWholes_13 3 rfl ?_
    refine pz_aload_n hC dX5_fillWholes_15 1 rfl ?_
    refine pz_getI hC dX5_fillWholes_16 fa_X5_35 hf (fun v1 hf => ?_)
    refine pz_icmp_ne hC dX5_fillWholes_19 hf (fun _ hf => ?_) (fun _ hf => ?_)
    · refine pz_aload_n hC dX5_fillWholes_31 1 rfl ?_
      refine pz_getI hC dX5_fillWholes_32 fa_X5_35 hf (fun v2 hf => ?_)
      refine pz_iconst (v := ((-1) : Int32)) hC dX5_fillWholes_35 (by decide) ?_
      refine pz_icmp_eq hC dX5_fillWholes_36 hf (fun _ hf => ?_) (fun _ hf => ?_)
      · exact tX5_fillWholes_79 hC hK hk5 hf
      · refine pz_iload hC dX5_fillWholes_39 3 rfl ?_
        refine pz_aload_n hC dX5_fillWholes_41 1 rfl ?_
        refine pz_getI hC dX5_fillWholes_42 fa_X5_35 hf (fun v3 hf => ?_)
        refine pz_icmp_le hC dX5_fillWholes_45 hf (fun _ hf => ?_) (fun _ hf => ?_)
        · exact tX5_fillWholes_79 hC hK hk5 hf
        · refine pz_iload hC dX5_fillWholes_48 3 rfl ?_
          refine pz_aload_n hC dX5_fillWholes_50 1 rfl ?_
          refine pz_getI hC dX5_fillWholes_51 fa_X5_35 hf (fun v4 hf => ?_)
          refine pz_isub hC dX5_fillWholes_54 ?_
          refine pz_bipush (v := (12 : Int32)) hC dX5_fillWholes_55 (by decide) ?_
          refine pz_iremc hC dX5_fillWholes_57 (by decide) ?_
          refine pz_if_ne hC dX5_fillWholes_58 hf (fun _ hf => ?_) (fun _ hf => ?_)
          · exact tX5_fillWholes_79 hC hK hk5 hf
          · refine pz_lload_n hC dX5_fillWholes_61 2 rfl ?_
            refine pz_sipush (v := (1000 : Int32)) hC dX5_fillWholes_62 (by decide) ?_
            refine pz_aload_n hC dX5_fillWholes_65 1 rfl ?_
            refine pz_getR hC dX5_fillWholes_66 fa_X5_45 hf (fun v5 hf => ?_)
            refine pz_iconst (v := (3 : Int32)) hC dX5_fillWholes_69 (by decide) ?_
            refine pz_iald hC dX5_fillWholes_70 hf (fun v6 hf => ?_)
            refine pz_iadd hC dX5_fillWholes_71 ?_
            refine pz_i2l hC dX5_fillWholes_72 ?_
            refine pz_lmul hC dX5_fillWholes_73 ?_
            refine pz_ldc2 hC dX5_fillWholes_74 ck_X5_48 ?_
            refine pz_ldivc hC dX5_fillWholes_77 (by decide) ?_
            refine pz_lstore_n hC dX5_fillWholes_78 (by decide) rfl ?_
            refine pz_sub [1, 2, 0, 3] rfl ?_
            exact tX5_fillWholes_79 hC hK hk5 hf
    · refine pz_aload_n hC dX5_fillWholes_22 1 rfl ?_
      refine pz_Vi (As := []) hC hK dX5_fillWholes_23 py_X3_firstPay pv_X3_firstPay lk_X5_41 hf (fun _ h => mX3_firstPay h) rfl rfl (Nat.le_of_ble_eq_true rfl) ⟨by decide, by decide⟩ ⟨Nat.le_of_ble_eq_true rfl, Nat.le_of_ble_eq_true rfl⟩ (fun x7 hf => ?_)
      refine pz_i2l hC dX5_fillWholes_26 ?_
      refine pz_lstore_n hC dX5_fillWholes_27 (by decide) rfl ?_
      refine pz_goto hC dX5_fillWholes_28 ?_
      refine pz_sub [1, 2, 0, 3] rfl ?_
      exact tX5_fillWholes_79 hC hK hk5 hf
def fX5_fillWholes_5 : Nat → pz_H → Nat → Nat → Int64 → Int32 → Option pz_H
  | 0, _, _, _, _, _ => none
  | n + 1, f, l0, l1, l2, l4 => fX5_fillWholes_5b (fX5_fillWholes_5 n) f l0 l1 l2 l4
theorem tX5_fillWholes_5 {G : pz_G} {C : pz_C} {r : pz_H} (hC : pz_OK G C cX5_fillWholes 5 RX5) (hK : pz_K C none 3 68 0 0) : ∀ (N : Nat) (f : pz_H) (l0 : Nat) (l1 : Nat) (l2 : Int64) (l4 : Int32), fX5_fillWholes_5 N f l0 l1 l2 l4 = some r → pz_W G C 5 5 [(0, .ref l0), (1, .ref l1), (2, .long l2), (4, .int l4)] [] f 0 0 (pz_Q G C none r 0 0) := by
  intro N
  induction N with
  | zero => intro f l0 l1 l2 l4 hf; cases hf
  | succ N ih => intro f l0 l1 l2 l4 hf; exact tX5_fillWholes_5b hC hK (fun f l0 l1 l2 l4 hf => ih f l0 l1 l2 l4 hf) hf
def fnX5_fillWholes (f : pz_H) (a0 : Nat) (p1 : Nat) : Option pz_H :=
  (pz_is f a0 4).bind fun _ =>
  fX5_fillWholes_5 pz_F f a0 p1 ((0 : Int64)) ((0 : Int32))
theorem mX5_fillWholes {l : Launch} {G : pz_G} {f : pz_H} {a0 : Nat} {p1 : Nat} {r : pz_H} (hf : fnX5_fillWholes f a0 p1 = some r) : pz_Met l G yX5_fillWholes cX5_fillWholes 5 none 3 68 0 0 [.ref a0, .ref p1] f none r ∧ pz_is f a0 4 = some () := by
  unfold fnX5_fillWholes at hf
  obtain ⟨_, h0, hf⟩ := pz_bd hf
  refine ⟨pz_enter (by decide +kernel) (Nat.le_of_ble_eq_true rfl) (fun C hl hC hK hnm => ?_), h0⟩
  subst hl
  refine pz_sub (lv' := [(0, .ref a0), (1, .ref p1)]) [0, 1] rfl ?_
  refine pz_lconst (v := 0) hC dX5_fillWholes_0 (by decide) ?_
  refine pz_lstore_n hC dX5_fillWholes_1 (by decide) rfl ?_
  refine pz_iconst (v := (0 : Int32)) hC dX5_fillWholes_2 (by decide) ?_
  refine pz_istore hC dX5_fillWholes_3 (by decide) rfl ?_
  refine pz_sub [2, 3, 1, 0] rfl ?_
  exact tX5_fillWholes_5 hC hK _ _ _ _ _ _ hf
def fX5_fillDiscounts_7b (k7 : pz_H → Nat → Nat → Int64 → Int32 → Option pz_H) (f : pz_H) (l0 : Nat) (l1 : Nat) (l2 : Int64) (l4 : Int32) : Option pz_H :=
  if (1800 : Int32) ≤ l4 then some f else
  (pz_gR f l0 4 1).bind fun v1 =>
  (pz_tI f v1 0 l4 l2.toInt32).bind fun f2 =>
  (pz_gR f2 l1 2 3).bind fun v3 =>
  (pz_aI f2 v3 0 ((4 : Int32))).bind fun v4 =>
  if ((12000 : Int64) + v4.toInt64) = 0 then none else
  k7 f2 l0 l1 (((l2 * (12000 : Int64)) / ((12000 : Int64) + v4.toInt64))) ((l4 + 1))
theorem tX5_fillDiscounts_7b {G : pz_G} {C : pz_C} {f : pz_H} {k7 : pz_H → Nat → Nat → Int64 → Int32 → Option pz_H} {l0 : Nat} {l1 : Nat} {l2 : Int64} {l4 : Int32} {r : pz_H} (hC : pz_OK G C cX5_fillDiscounts 5 RX5) (hK : pz_K C none 0 0 0 0) (hk7 : ∀ (g : pz_H) (a0 : Nat) (a1 : Nat) (a2 : Int64) (a4 : Int32), k7 g a0 a1 a2 a4 = some r → pz_W G C 5 7 [(0, .ref a0), (1, .ref a1), (2, .long a2), (4, .int a4)] [] g 0 0 (pz_Q G C none r 0 0)) (hf : fX5_fillDiscounts_7b k7 f l0 l1 l2 l4 = some r) : pz_W G C 5 7 [(0, .ref l0), (1, .ref l1), (2, .long l2), (4, .int l4)] [] f 0 0 (pz_Q G C none r 0 0) := by
  unfold fX5_fillDiscounts_7b at hf
  refine pz_iload hC dX5_fillDiscounts_7 3 rfl ?_
  refine pz_sipush (v := (1800 : Int32)) hC dX5_fillDiscounts_9 (by decide) ?_
  refine pz_icmp_ge hC dX5_fillDiscounts_12 hf (fun _ hf => ?_) (fun _ hf => ?_)
  · exact pz_vret hC hK dX5_fillDiscounts_48 hf
  · refine pz_aload_n hC dX5_fillDiscounts_15 0 rfl ?_
    refine pz_getR hC dX5_fillDiscounts_16 fa_X5_15 hf (fun v1 hf => ?_)
    refine pz_iload hC dX5_fillDiscounts_19 3 rfl ?_
    refine pz_lload_n hC dX5_fillDiscounts_21 2 rfl ?_
    refine pz_l2i hC dX5_fillDiscounts_22 ?_
    refine pz_iast hC dX5_fillDiscounts_23 hf (fun f2 hf => ?_)
    refine pz_lload_n hC dX5_fillDiscounts_24 2 rfl ?_
    refine pz_ldc2 hC dX5_fillDiscounts_25 ck_X5_52 ?_
    refine pz_lmul hC dX5_fillDiscounts_28 ?_
    refine pz_ldc2 hC dX5_fillDiscounts_29 ck_X5_52 ?_
    refine pz_aload_n hC dX5_fillDiscounts_32 1 rfl ?_
    refine pz_getR hC dX5_fillDiscounts_33 fa_X5_45 hf (fun v3 hf => ?_)
    refine pz_iconst (v := (4 : Int32)) hC dX5_fillDiscounts_36 (by decide) ?_
    refine pz_iald hC dX5_fillDiscounts_37 hf (fun v4 hf => ?_)
    refine pz_i2l hC dX5_fillDiscounts_38 ?_
    refine pz_ladd hC dX5_fillDiscounts_39 ?_
    refine pz_ldiv hC dX5_fillDiscounts_40 hf (fun hf => ?_)
    refine pz_lstore_n hC dX5_fillDiscounts_41 (by decide) rfl ?_
    refine pz_iinc (v := (l4 + 1)) hC dX5_fillDiscounts_42 3 rfl rfl (by decide) rfl ?_
    refine pz_goto hC dX5_fillDiscounts_45 ?_
    refine pz_sub [2, 3, 1, 0] rfl ?_
    exact hk7 _ _ _ _ _ hf
def fX5_fillDiscounts_7 : Nat → pz_H → Nat → Nat → Int64 → Int32 → Option pz_H
  | 0, _, _, _, _, _ => none
  | n + 1, f, l0, l1, l2, l4 => fX5_fillDiscounts_7b (fX5_fillDiscounts_7 n) f l0 l1 l2 l4
theorem tX5_fillDiscounts_7 {G : pz_G} {C : pz_C} {r : pz_H} (hC : pz_OK G C cX5_fillDiscounts 5 RX5) (hK : pz_K C none 0 0 0 0) : ∀ (N : Nat) (f : pz_H) (l0 : Nat) (l1 : Nat) (l2 : Int64) (l4 : Int32), fX5_fillDiscounts_7 N f l0 l1 l2 l4 = some r → pz_W G C 5 7 [(0, .ref l0), (1, .ref l1), (2, .long l2), (4, .int l4)] [] f 0 0 (pz_Q G C none r 0 0) := by
  intro N
  induction N with
  | zero => intro f l0 l1 l2 l4 hf; cases hf
  | succ N ih => intro f l0 l1 l2 l4 hf; exact tX5_fillDiscounts_7b hC hK (fun f l0 l1 l2 l4 hf => ih f l0 l1 l2 l4 hf) hf
def fnX5_fillDiscounts (f : pz_H) (a0 : Nat) (p1 : Nat) : Option pz_H :=
  (pz_is f a0 4).bind fun _ =>
  fX5_fillDiscounts_7 pz_F f a0 p1 ((1000000000 : Int64)) ((0 : Int32))
theorem mX5_fillDiscounts {l : Launch} {G : pz_G} {f : pz_H} {a0 : Nat} {p1 : Nat} {r : pz_H} (hf : fnX5_fillDiscounts f a0 p1 = some r) : pz_Met l G yX5_fillDiscounts cX5_fillDiscounts 5 none 0 0 0 0 [.ref a0, .ref p1] f none r ∧ pz_is f a0 4 = some () := by
  unfold fnX5_fillDiscounts at hf
  obtain ⟨_, h0, hf⟩ := pz_bd hf
  refine ⟨pz_enter (by decide +kernel) (Nat.le_of_ble_eq_true rfl) (fun C hl hC hK hnm => ?_), h0⟩
  subst hl
  refine pz_sub (lv' := [(0, .ref a0), (1, .ref p1)]) [0, 1] rfl ?_
  refine pz_ldc2 hC dX5_fillDiscounts_0 ck_X5_50 ?_
  refine pz_lstore_n hC dX5_fillDiscounts_3 (by decide) rfl ?_
  refine pz_iconst (v := (0 : Int32)) hC dX5_fillDiscounts_4 (by decide) ?_
  refine pz_istore hC dX5_fillDiscounts_5 (by decide) rfl ?_
  refine pz_sub [2, 3, 1, 0] rfl ?_
  exact tX5_fillDiscounts_7 hC hK _ _ _ _ _ _ hf
def fX5_fillOdds_63 (k15 : pz_H → Nat → Int32 → Nat → Int32 → Int32 → Option pz_H) (f : pz_H) (l0 : Nat) (l1 : Int32) (l3 : Nat) (l4 : Int32) (l5 : Int32) (s0 : Int32) (s1 : Int32) (s2 : Nat) : Option pz_H :=
  (pz_tI f s2 0 s1 s0).bind fun f1 =>
  k15 f1 l0 l1 l3 l4 ((l5 + 1))
theorem tX5_fillOdds_63 {G : pz_G} {C : pz_C} {f : pz_H} {k15 : pz_H → Nat → Int32 → Nat → Int32 → Int32 → Option pz_H} {l0 : Nat} {l1 : Int32} {l3 : Nat} {l4 : Int32} {l5 : Int32} {s0 : Int32} {s1 : Int32} {s2 : Nat} {r : pz_H} (hC : pz_OK G C cX5_fillOdds 6 RX5) (hK : pz_K C none 1 27 0 0) (hk15 : ∀ (g : pz_H) (a0 : Nat) (a1 : Int32) (a3 : Nat) (a4 : Int32) (a5 : Int32), k15 g a0 a1 a3 a4 a5 = some r → pz_W G C 6 15 [(0, .ref a0), (1, .int a1), (3, .ref a3), (4, .int a4), (5, .int a5)] [] g 0 0 (pz_Q G C none r 0 0)) (hf : fX5_fillOdds_63 k15 f l0 l1 l3 l4 l5 s0 s1 s2 = some r) : pz_W G C 6 63 [(0, .ref l0), (1, .int l1), (3, .ref l3), (4, .int l4), (5, .int l5)] [.int s0, .int s1, .ref s2] f 0 0 (pz_Q G C none r 0 0) := by
  unfold fX5_fillOdds_63 at hf
  refine pz_iast hC dX5_fillOdds_63 hf (fun f1 hf => ?_)
  refine pz_iinc (v := (l5 + 1)) hC dX5_fillOdds_64 4 rfl rfl (by decide) rfl ?_
  refine pz_goto hC dX5_fillOdds_67 ?_
  refine pz_sub [1, 2, 3, 4, 0] rfl ?_
  exact hk15 _ _ _ _ _ _ hf
def fX5_fillOdds_70 (f : pz_H) : Option pz_H :=
  some f
theorem tX5_fillOdds_70 {G : pz_G} {C : pz_C} {f : pz_H} {r : pz_H} (hC : pz_OK G C cX5_fillOdds 6 RX5) (hK : pz_K C none 1 27 0 0) (hf : fX5_fillOdds_70 f = some r) : pz_W G C 6 70 [] [] f 0 0 (pz_Q G C none r 0 0) := by
  unfold fX5_fillOdds_70 at hf
  exact pz_vret hC hK dX5_fillOdds_70 hf
def fX5_fillOdds_15b (k15 : pz_H → Nat → Int32 → Nat → Int32 → Int32 → Option pz_H) (f : pz_H) (l0 : Nat) (l1 : Int32) (l3 : Nat) (l4 : Int32) (l5 : Int32) : Option pz_H :=
  if (1800 : Int32) ≤ l5 then fX5_fillOdds_70 f else
  (pz_ln f l3 0).bind fun v1 =>
  if v1 ≤ l5 then fX5_fillOdds_70 f else
  if l4 = 0 then fX5_fillOdds_63 k15 f l0 l1 l3 l4 l5 ((0 : Int32)) l5 l3 else
  (pz_gR f l0 2 9).bind fun v2 =>
  (fnX2_livesAt f v2 ((l5 - l1))).bind fun x3 =>
  if l4.toInt64 = 0 then none else
  fX5_fillOdds_63 k15 f l0 l1 l3 l4 l5 (((((1000000000 : Int64) * x3.toInt64) / l4.toInt64)).toInt32) l5 l3
theorem tX5_fillOdds_15b {G : pz_G} {C : pz_C} {f : pz_H} {k15 : pz_H → Nat → Int32 → Nat → Int32 → Int32 → Option pz_H} {l0 : Nat} {l1 : Int32} {l3 : Nat} {l4 : Int32} {l5 : Int32} {r : pz_H} (hC : pz_OK G C cX5_fillOdds 6 RX5) (hK : pz_K C none 1 27 0 0) (hk15 : ∀ (g : pz_H) (a0 : Nat) (a1 : Int32) (a3 : Nat) (a4 : Int32) (a5 : Int32), k15 g a0 a1 a3 a4 a5 = some r → pz_W G C 6 15 [(0, .ref a0), (1, .int a1), (3, .ref a3), (4, .int a4), (5, .int a5)] [] g 0 0 (pz_Q G C none r 0 0)) (hf : fX5_fillOdds_15b k15 f l0 l1 l3 l4 l5 = some r) : pz_W G C 6 15 [(0, .ref l0), (1, .int l1), (3, .ref l3), (4, .int l4), (5, .int l5)] [] f 0 0 (pz_Q G C none r 0 0) := by
  unfold fX5_fillOdds_15b at hf
  refine pz_iload hC dX5_fillOdds_15 4 rfl ?_
  refine pz_sipush (v := (1800 : Int32)) hC dX5_fillOdds_17 (by decide) ?_
  refine pz_icmp_ge hC dX5_fillOdds_20 hf (fun _ hf => ?_) (fun _ hf => ?_)
  · refine pz_sub [] rfl ?_
    exact tX5_fillOdds_70 hC hK hf
  · refine pz_iload hC dX5_fillOdds_23 4 rfl ?_
    refine pz_aload_n hC dX5_fillOdds_25 2 rfl ?_
    refine pz_alen hC dX5_fillOdds_26 (fun _ => rfl) (by decide) hf (fun v1 hf => ?_)
    refine pz_icmp_ge hC dX5_fillOdds_27 hf (fun _ hf => ?_) (fun _ hf => ?_)
    · refine pz_sub [] rfl ?_
      exact tX5_fillOdds_70 hC hK hf
    · refine pz_aload_n hC dX5_fillOdds_30 2 rfl ?_
      refine pz_iload hC dX5_fillOdds_31 4 rfl ?_
      refine pz_iload hC dX5_fillOdds_33 3 rfl ?_
      refine pz_if_ne hC dX5_fillOdds_35 hf (fun _ hf => ?_) (fun _ hf => ?_)
      · refine pz_ldc2 hC dX5_fillOdds_42 ck_X5_50 ?_
        refine pz_aload_n hC dX5_fillOdds_45 0 rfl ?_
        refine pz_getR hC dX5_fillOdds_46 fa_X5_54 hf (fun v2 hf => ?_)
        refine pz_iload hC dX5_fillOdds_49 4 rfl ?_
        refine pz_iload_n hC dX5_fillOdds_51 1 rfl ?_
        refine pz_isub hC dX5_fillOdds_52 ?_
        refine pz_Vi (As := [.int (l5 - l1)]) hC hK dX5_fillOdds_53 py_X2_livesAt pv_X2_livesAt lk_X5_58 hf (fun _ h => mX2_livesAt h) rfl rfl (Nat.le_of_ble_eq_true rfl) ⟨by decide, by decide⟩ ⟨Nat.le_of_ble_eq_true rfl, Nat.le_of_ble_eq_true rfl⟩ (fun x3 hf => ?_)
        refine pz_i2l hC dX5_fillOdds_56 ?_
        refine pz_lmul hC dX5_fillOdds_57 ?_
        refine pz_iload hC dX5_fillOdds_58 3 rfl ?_
        refine pz_i2l hC dX5_fillOdds_60 ?_
        refine pz_ldiv hC dX5_fillOdds_61 hf (fun hf => ?_)
        refine pz_l2i hC dX5_fillOdds_62 ?_
        exact tX5_fillOdds_63 hC hK hk15 hf
      · refine pz_iconst (v := (0 : Int32)) hC dX5_fillOdds_38 (by decide) ?_
        refine pz_goto hC dX5_fillOdds_39 ?_
        exact tX5_fillOdds_63 hC hK hk15 hf
def fX5_fillOdds_15 : Nat → pz_H → Nat → Int32 → Nat → Int32 → Int32 → Option pz_H
  | 0, _, _, _, _, _, _ => none
  | n + 1, f, l0, l1, l3, l4, l5 => fX5_fillOdds_15b (fX5_fillOdds_15 n) f l0 l1 l3 l4 l5
theorem tX5_fillOdds_15 {G : pz_G} {C : pz_C} {r : pz_H} (hC : pz_OK G C cX5_fillOdds 6 RX5) (hK : pz_K C none 1 27 0 0) : ∀ (N : Nat) (f : pz_H) (l0 : Nat) (l1 : Int32) (l3 : Nat) (l4 : Int32) (l5 : Int32), fX5_fillOdds_15 N f l0 l1 l3 l4 l5 = some r → pz_W G C 6 15 [(0, .ref l0), (1, .int l1), (3, .ref l3), (4, .int l4), (5, .int l5)] [] f 0 0 (pz_Q G C none r 0 0) := by
  intro N
  induction N with
  | zero => intro f l0 l1 l3 l4 l5 hf; cases hf
  | succ N ih => intro f l0 l1 l3 l4 l5 hf; exact tX5_fillOdds_15b hC hK (fun f l0 l1 l3 l4 l5 hf => ih f l0 l1 l3 l4 l5 hf) hf
def fnX5_fillOdds (f : pz_H) (p0 : Nat) (p1 : Int32) (p2 : Int32) (p3 : Nat) : Option pz_H :=
  (pz_gR f p0 2 9).bind fun v1 =>
  (fnX2_livesAt f v1 ((p2 - p1))).bind fun x2 =>
  fX5_fillOdds_15 pz_F f p0 p1 p3 x2 p2
theorem mX5_fillOdds {l : Launch} {G : pz_G} {f : pz_H} {p0 : Nat} {p1 : Int32} {p2 : Int32} {p3 : Nat} {r : pz_H} (hf : fnX5_fillOdds f p0 p1 p2 p3 = some r) : pz_Met l G yX5_fillOdds cX5_fillOdds 6 none 1 27 0 0 [.ref p0, .int p1, .int p2, .ref p3] f none r := by
  unfold fnX5_fillOdds at hf
  refine pz_enter (by decide +kernel) (Nat.le_of_ble_eq_true rfl) (fun C hl hC hK hnm => ?_)
  subst hl
  refine pz_sub (lv' := [(0, .ref p0), (1, .int p1), (2, .int p2), (3, .ref p3)]) [0, 1, 2, 3] rfl ?_
  refine pz_aload_n hC dX5_fillOdds_0 0 rfl ?_
  refine pz_getR hC dX5_fillOdds_1 fa_X5_54 hf (fun v1 hf => ?_)
  refine pz_iload_n hC dX5_fillOdds_4 2 rfl ?_
  refine pz_iload_n hC dX5_fillOdds_5 1 rfl ?_
  refine pz_isub hC dX5_fillOdds_6 ?_
  refine pz_Vi (As := [.int (p2 - p1)]) hC hK dX5_fillOdds_7 py_X2_livesAt pv_X2_livesAt lk_X5_58 hf (fun _ h => mX2_livesAt h) rfl rfl (Nat.le_of_ble_eq_true rfl) ⟨by decide, by decide⟩ ⟨Nat.le_of_ble_eq_true rfl, Nat.le_of_ble_eq_true rfl⟩ (fun x2 hf => ?_)
  refine pz_istore hC dX5_fillOdds_10 (by decide) rfl ?_
  refine pz_iload_n hC dX5_fillOdds_12 3 rfl ?_
  refine pz_istore hC dX5_fillOdds_13 (by decide) rfl ?_
  refine pz_sub [2, 3, 5, 1, 0] rfl ?_
  exact tX5_fillOdds_15 hC hK _ _ _ _ _ _ _ hf
def fnX5_annuityIn (f : pz_H) (a0 : Nat) (p1 : Int32) (p2 : Int32) : Option Int64 :=
  (pz_is f a0 4).bind fun _ =>
  (pz_gR f a0 4 1).bind fun v1 =>
  (pz_aI f v1 0 ((p2 - p1))).bind fun v2 =>
  (pz_gR f a0 4 3).bind fun v3 =>
  (pz_aI f v3 0 p2).bind fun v4 =>
  some (((v2.toInt64 * v4.toInt64) / (1000000000 : Int64)))
theorem mX5_annuityIn {l : Launch} {G : pz_G} {f : pz_H} {a0 : Nat} {p1 : Int32} {p2 : Int32} {r : Int64} (hf : fnX5_annuityIn f a0 p1 p2 = some r) : pz_Met l G yX5_annuityIn cX5_annuityIn 3 (some .long) 0 0 0 0 [.ref a0, .int p1, .int p2] f (some (.long r)) f ∧ pz_is f a0 4 = some () := by
  unfold fnX5_annuityIn at hf
  obtain ⟨_, h0, hf⟩ := pz_bd hf
  refine ⟨pz_enter (by decide +kernel) (Nat.le_of_ble_eq_true rfl) (fun C hl hC hK hnm => ?_), h0⟩
  subst hl
  refine pz_sub (lv' := [(0, .ref a0), (1, .int p1), (2, .int p2)]) [0, 1, 2] rfl ?_
  refine pz_aload_n hC dX5_annuityIn_0 0 rfl ?_
  refine pz_getR hC dX5_annuityIn_1 fa_X5_15 hf (fun v1 hf => ?_)
  refine pz_iload_n hC dX5_annuityIn_4 2 rfl ?_
  refine pz_iload_n hC dX5_annuityIn_5 1 rfl ?_
  refine pz_isub hC dX5_annuityIn_6 ?_
  refine pz_iald hC dX5_annuityIn_7 hf (fun v2 hf => ?_)
  refine pz_i2l hC dX5_annuityIn_8 ?_
  refine pz_aload_n hC dX5_annuityIn_9 0 rfl ?_
  refine pz_getR hC dX5_annuityIn_10 fa_X5_21 hf (fun v3 hf => ?_)
  refine pz_iload_n hC dX5_annuityIn_13 2 rfl ?_
  refine pz_iald hC dX5_annuityIn_14 hf (fun v4 hf => ?_)
  refine pz_i2l hC dX5_annuityIn_15 ?_
  refine pz_lmul hC dX5_annuityIn_16 ?_
  refine pz_ldc2 hC dX5_annuityIn_17 ck_X5_50 ?_
  refine pz_ldivc hC dX5_annuityIn_20 (by decide) ?_
  exact pz_lret hC hK dX5_annuityIn_21 hf
def fX5_annuityOf_22b (k22 : pz_H → Nat → Int32 → Int64 → Int32 → Option (Int64 × pz_H)) (f : pz_H) (l0 : Nat) (l3 : Int32) (l5 : Int64) (l7 : Int32) : Option (Int64 × pz_H) :=
  if (1800 : Int32) ≤ l7 then some (l5, f) else
  (fnX5_annuityIn f l0 l3 l7).bind fun x1 =>
  k22 f l0 l3 ((l5 + x1)) ((l7 + 1))
theorem tX5_annuityOf_22b {G : pz_G} {C : pz_C} {f : pz_H} {k22 : pz_H → Nat → Int32 → Int64 → Int32 → Option (Int64 × pz_H)} {l0 : Nat} {l3 : Int32} {l5 : Int64} {l7 : Int32} {r : (Int64 × pz_H)} (hC : pz_OK G C cX5_annuityOf 8 RX5) (hK : pz_K C (some .long) 2 52 0 0) (hk22 : ∀ (g : pz_H) (a0 : Nat) (a3 : Int32) (a5 : Int64) (a7 : Int32), k22 g a0 a3 a5 a7 = some r → pz_W G C 8 22 [(0, .ref a0), (3, .int a3), (5, .long a5), (7, .int a7)] [] g 0 0 (pz_Q G C (some (.long r.1)) r.2 0 0)) (hf : fX5_annuityOf_22b k22 f l0 l3 l5 l7 = some r) : pz_W G C 8 22 [(0, .ref l0), (3, .int l3), (5, .long l5), (7, .int l7)] [] f 0 0 (pz_Q G C (some (.long r.1)) r.2 0 0) := by
  unfold fX5_annuityOf_22b at hf
  refine pz_iload hC dX5_annuityOf_22 3 rfl ?_
  refine pz_sipush (v := (1800 : Int32)) hC dX5_annuityOf_24 (by decide) ?_
  refine pz_icmp_ge hC dX5_annuityOf_27 hf (fun _ hf => ?_) (fun _ hf => ?_)
  · refine pz_lload hC dX5_annuityOf_48 2 rfl ?_
    exact pz_lretw hC hK dX5_annuityOf_50 hf
  · refine pz_lload hC dX5_annuityOf_30 2 rfl ?_
    refine pz_aload_n hC dX5_annuityOf_32 0 rfl ?_
    refine pz_iload_n hC dX5_annuityOf_33 1 rfl ?_
    refine pz_iload hC dX5_annuityOf_34 3 rfl ?_
    refine pz_Vl (As := [.int l3, .int l7]) hC hK dX5_annuityOf_36 py_X5_annuityIn pv_X5_annuityIn lk_X5_134 hf (fun _ h => mX5_annuityIn h) rfl rfl (Nat.le_of_ble_eq_true rfl) ⟨by decide, by decide⟩ ⟨Nat.le_of_ble_eq_true rfl, Nat.le_of_ble_eq_true rfl⟩ (fun x1 hf => ?_)
    refine pz_ladd hC dX5_annuityOf_39 ?_
    refine pz_lstore hC dX5_annuityOf_40 (by decide) rfl ?_
    refine pz_iinc (v := (l7 + 1)) hC dX5_annuityOf_42 3 rfl rfl (by decide) rfl ?_
    refine pz_goto hC dX5_annuityOf_45 ?_
    refine pz_sub [2, 3, 1, 0] rfl ?_
    exact hk22 _ _ _ _ _ hf
def fX5_annuityOf_22 : Nat → pz_H → Nat → Int32 → Int64 → Int32 → Option (Int64 × pz_H)
  | 0, _, _, _, _, _ => none
  | n + 1, f, l0, l3, l5, l7 => fX5_annuityOf_22b (fX5_annuityOf_22 n) f l0 l3 l5 l7
theorem tX5_annuityOf_22 {G : pz_G} {C : pz_C} {r : (Int64 × pz_H)} (hC : pz_OK G C cX5_annuityOf 8 RX5) (hK : pz_K C (some .long) 2 52 0 0) : ∀ (N : Nat) (f : pz_H) (l0 : Nat) (l3 : Int32) (l5 : Int64) (l7 : Int32), fX5_annuityOf_22 N f l0 l3 l5 l7 = some r → pz_W G C 8 22 [(0, .ref l0), (3, .int l3), (5, .long l5), (7, .int l7)] [] f 0 0 (pz_Q G C (some (.long r.1)) r.2 0 0) := by
  intro N
  induction N with
  | zero => intro f l0 l3 l5 l7 hf; cases hf
  | succ N ih => intro f l0 l3 l5 l7 hf; exact tX5_annuityOf_22b hC hK (fun f l0 l3 l5 l7 hf => ih f l0 l3 l5 l7 hf) hf
def fnX5_annuityOf (f : pz_H) (a0 : Nat) (p1 : Nat) (p2 : Int32) (p3 : Int32) (p4 : Int32) : Option (Int64 × pz_H) :=
  (pz_is f a0 4).bind fun _ =>
  (fnX5_fillDiscounts f a0 p1).bind fun x1 =>
  (pz_gR x1 a0 4 3).bind fun v2 =>
  (fnX5_fillOdds x1 p1 p2 p3 v2).bind fun x3 =>
  fX5_annuityOf_22 pz_F x3 a0 p3 ((0 : Int64)) p4
theorem mX5_annuityOf {l : Launch} {G : pz_G} {f : pz_H} {a0 : Nat} {p1 : Nat} {p2 : Int32} {p3 : Int32} {p4 : Int32} {r : (Int64 × pz_H)} (hf : fnX5_annuityOf f a0 p1 p2 p3 p4 = some r) : pz_Met l G yX5_annuityOf cX5_annuityOf 8 (some .long) 2 52 0 0 [.ref a0, .ref p1, .int p2, .int p3, .int p4] f (some (.long r.1)) r.2 ∧ pz_is f a0 4 = some () := by
  unfold fnX5_annuityOf at hf
  obtain ⟨_, h0, hf⟩ := pz_bd hf
  refine ⟨pz_enter (by decide +kernel) (Nat.le_of_ble_eq_true rfl) (fun C hl hC hK hnm => ?_), h0⟩
  subst hl
  refine pz_sub (lv' := [(0, .ref a0), (1, .ref p1), (2, .int p2), (3, .int p3), (4, .int p4)]) [0, 1, 2, 3, 4] rfl ?_
  refine pz_aload_n hC dX5_annuityOf_0 0 rfl ?_
  refine pz_aload_n hC dX5_annuityOf_1 1 rfl ?_
  refine pz_Vv (As := [.ref p1]) hC hK dX5_annuityOf_2 py_X5_fillDiscounts pv_X5_fillDiscounts lk_X5_127 hf (fun _ h => mX5_fillDiscounts h) rfl rfl (Nat.le_of_ble_eq_true rfl) ⟨by decide, by decide⟩ ⟨Nat.le_of_ble_eq_true rfl, Nat.le_of_ble_eq_true rfl⟩ (fun x1 hf => ?_)
  refine pz_aload_n hC dX5_annuityOf_5 1 rfl ?_
  refine pz_iload_n hC dX5_annuityOf_6 2 rfl ?_
  refine pz_iload_n hC dX5_annuityOf_7 3 rfl ?_
  refine pz_aload_n hC dX5_annuityOf_8 0 rfl ?_
  refine pz_getR hC dX5_annuityOf_9 fa_X5_21 hf (fun v2 hf => ?_)
  refine pz_Sv (As := [.ref p1, .int p2, .int p3, .ref v2]) hC hK dX5_annuityOf_12 py_X5_fillOdds ps_X5_fillOdds lk_X5_130 hf (fun _ h => mX5_fillOdds h) rfl rfl (Nat.le_of_ble_eq_true rfl) ⟨by decide, by decide⟩ ⟨by decide, by decide⟩ (fun x3 hf => ?_)
  refine pz_lconst (v := 0) hC dX5_annuityOf_15 (by decide) ?_
  refine pz_lstore hC dX5_annuityOf_16 (by decide) rfl ?_
  refine pz_iload hC dX5_annuityOf_18 5 rfl ?_
  refine pz_istore hC dX5_annuityOf_20 (by decide) rfl ?_
  refine pz_sub [2, 5, 1, 0] rfl ?_
  exact tX5_annuityOf_22 hC hK _ _ _ _ _ _ hf
def fX5_ownBy_31 (s0 : Int64) : Option Int64 :=
  some s0
theorem tX5_ownBy_31 {G : pz_G} {C : pz_C} {f : pz_H} {s0 : Int64} {r : Int64} (hC : pz_OK G C cX5_ownBy 6 RX5) (hK : pz_K C (some .long) 1 23 0 0) (hf : fX5_ownBy_31 s0 = some r) : pz_W G C 6 31 [] [.long s0] f 0 0 (pz_Q G C (some (.long r)) f 0 0) := by
  unfold fX5_ownBy_31 at hf
  exact pz_lret hC hK dX5_ownBy_31 hf
def fnX5_ownBy (p0 : Int64) (p2 : Int64) (p4 : Int64) : Option Int64 :=
  if (lg_cmp p4 ((0 : Int64))) = 0 then fX5_ownBy_31 ((0 : Int64)) else
  if p4 = 0 then none else
  fX5_ownBy_31 ((if ((((p0 * p2) / (1000000000 : Int64)) * (1000000000 : Int64)) / p4) < (1000000000 : Int64) then ((((p0 * p2) / (1000000000 : Int64)) * (1000000000 : Int64)) / p4) else (1000000000 : Int64)))
theorem mX5_ownBy {l : Launch} {G : pz_G} {f : pz_H} {p0 : Int64} {p2 : Int64} {p4 : Int64} {r : Int64} (hf : fnX5_ownBy p0 p2 p4 = some r) : pz_Met l G yX5_ownBy cX5_ownBy 6 (some .long) 1 23 0 0 [.long p0, .long p2, .long p4] f (some (.long r)) f := by
  unfold fnX5_ownBy at hf
  refine pz_enter (by decide +kernel) (Nat.le_of_ble_eq_true rfl) (fun C hl hC hK hnm => ?_)
  subst hl
  refine pz_sub (lv' := [(0, .long p0), (2, .long p2), (4, .long p4)]) [0, 1, 2] rfl ?_
  refine pz_lload hC dX5_ownBy_0 2 rfl ?_
  refine pz_lconst (v := 0) hC dX5_ownBy_2 (by decide) ?_
  refine pz_lcmp hC dX5_ownBy_3 ?_
  refine pz_if_ne hC dX5_ownBy_4 hf (fun _ hf => ?_) (fun _ hf => ?_)
  · refine pz_ldc2 hC dX5_ownBy_11 ck_X5_50 ?_
    refine pz_lload_n hC dX5_ownBy_14 0 rfl ?_
    refine pz_lload_n hC dX5_ownBy_15 1 rfl ?_
    refine pz_lmul hC dX5_ownBy_16 ?_
    refine pz_ldc2 hC dX5_ownBy_17 ck_X5_50 ?_
    refine pz_ldivc hC dX5_ownBy_20 (by decide) ?_
    refine pz_ldc2 hC dX5_ownBy_21 ck_X5_50 ?_
    refine pz_lmul hC dX5_ownBy_24 ?_
    refine pz_lload hC dX5_ownBy_25 2 rfl ?_
    refine pz_ldiv hC dX5_ownBy_27 hf (fun hf => ?_)
    refine pz_mmin hC hK dX5_ownBy_28 mk_X5_150 ms_min mi_math mc_min (by decide) (Nat.le_of_ble_eq_true rfl) ⟨by decide, by decide⟩ ?_
    refine pz_sub [] rfl ?_
    exact tX5_ownBy_31 hC hK hf
  · refine pz_lconst (v := 0) hC dX5_ownBy_7 (by decide) ?_
    refine pz_goto hC dX5_ownBy_8 ?_
    refine pz_sub [] rfl ?_
    exact tX5_ownBy_31 hC hK hf
def fX5_ownOf_30 (f : pz_H) : Option (Int64 × pz_H) :=
  some ((0 : Int64), f)
theorem tX5_ownOf_30 {G : pz_G} {C : pz_C} {f : pz_H} {r : (Int64 × pz_H)} (hC : pz_OK G C cX5_ownOf 7 RX5) (hK : pz_K C (some .long) 3 79 0 0) (hf : fX5_ownOf_30 f = some r) : pz_W G C 7 30 [] [] f 0 0 (pz_Q G C (some (.long r.1)) r.2 0 0) := by
  unfold fX5_ownOf_30 at hf
  refine pz_lconst (v := 0) hC dX5_ownOf_30 (by decide) ?_
  exact pz_lretw hC hK dX5_ownOf_31 hf
def fnX5_ownOf (f : pz_H) (a0 : Nat) (p1 : Nat) (p2 : Nat) : Option (Int64 × pz_H) :=
  (pz_is f a0 4).bind fun _ =>
  (pz_gI f p1 2 1).bind fun v1 =>
  if v1 = ((-1) : Int32) then fX5_ownOf_30 f else
  (pz_gI f p1 2 0).bind fun v2 =>
  (pz_gI f p1 2 1).bind fun v3 =>
  if v3 < v2 then fX5_ownOf_30 f else
  (pz_gI f p2 6 0).bind fun v4 =>
  (pz_gI f p1 2 1).bind fun v5 =>
  if v4 ≤ v5 then (fnX3_firstPay f p1).bind fun x6 =>
  (fnX3_shareOf f p1 p2 x6).bind fun x7 =>
  (pz_gI f p1 2 0).bind fun v8 =>
  (pz_gI f p1 2 1).bind fun v9 =>
  (pz_gI f p1 2 1).bind fun v10 =>
  (fnX5_annuityOf f a0 p1 v8 v9 v10).bind fun x11 =>
  (pz_gI x11.2 p2 6 0).bind fun v12 =>
  (pz_gI x11.2 p1 2 1).bind fun v13 =>
  (fnX3_beginOf x11.2 p1 p2).bind fun x14 =>
  (fnX5_annuityOf x11.2 a0 p1 v12 v13 x14).bind fun x15 =>
  (fnX5_ownBy x7 x11.1 x15.1).bind fun x16 =>
  some (x16, x15.2) else
  fX5_ownOf_30 f
theorem mX5_ownOf {l : Launch} {G : pz_G} {f : pz_H} {a0 : Nat} {p1 : Nat} {p2 : Nat} {r : (Int64 × pz_H)} (hf : fnX5_ownOf f a0 p1 p2 = some r) : pz_Met l G yX5_ownOf cX5_ownOf 7 (some .long) 3 79 0 0 [.ref a0, .ref p1, .ref p2] f (some (.long r.1)) r.2 ∧ pz_is f a0 4 = some () := by
  unfold fnX5_ownOf at hf
  obtain ⟨_, h0, hf⟩ := pz_bd hf
  refine ⟨pz_enter (by decide +kernel) (Nat.le_of_ble_eq_true rfl) (fun C hl hC hK hnm => ?_), h0⟩
  subst hl
  refine pz_sub (lv' := [(0, .ref a0), (1, .ref p1), (2, .ref p2)]) [0, 1, 2] rfl ?_
  refine pz_aload_n hC dX5_ownOf_0 1 rfl ?_
  refine pz_getI hC dX5_ownOf_1 fa_X5_35 hf (fun v1 hf => ?_)
  refine pz_iconst (v := ((-1) : Int32)) hC dX5_ownOf_4 (by decide) ?_
  refine pz_icmp_eq hC dX5_ownOf_5 hf (fun _ hf => ?_) (fun _ hf => ?_)
  · refine pz_sub [] rfl ?_
    exact tX5_ownOf_30 hC hK hf
  · refine pz_aload_n hC dX5_ownOf_8 1 rfl ?_
    refine pz_getI hC dX5_ownOf_9 fa_X5_138 hf (fun v2 hf => ?_)
    refine pz_aload_n hC dX5_ownOf_12 1 rfl ?_
    refine pz_getI hC dX5_ownOf_13 fa_X5_35 hf (fun v3 hf => ?_)
    refine pz_icmp_gt hC dX5_ownOf_16 hf (fun _ hf => ?_) (fun _ hf => ?_)
    · refine pz_sub [] rfl ?_
      exact tX5_ownOf_30 hC hK hf
    · refine pz_aload_n hC dX5_ownOf_19 2 rfl ?_
      refine pz_getI hC dX5_ownOf_20 fa_X5_141 hf (fun v4 hf => ?_)
      refine pz_aload_n hC dX5_ownOf_23 1 rfl ?_
      refine pz_getI hC dX5_ownOf_24 fa_X5_35 hf (fun v5 hf => ?_)
      refine pz_icmp_le hC dX5_ownOf_27 hf (fun _ hf => ?_) (fun _ hf => ?_)
      · refine pz_aload_n hC dX5_ownOf_32 1 rfl ?_
        refine pz_aload_n hC dX5_ownOf_33 2 rfl ?_
        refine pz_aload_n hC dX5_ownOf_34 1 rfl ?_
        refine pz_Vi (As := []) hC hK dX5_ownOf_35 py_X3_firstPay pv_X3_firstPay lk_X5_41 hf (fun _ h => mX3_firstPay h) rfl rfl (Nat.le_of_ble_eq_true rfl) ⟨by decide, by decide⟩ ⟨Nat.le_of_ble_eq_true rfl, Nat.le_of_ble_eq_true rfl⟩ (fun x6 hf => ?_)
        refine pz_Vl (As := [.ref p2, .int x6]) hC hK dX5_ownOf_38 py_X3_shareOf pv_X3_shareOf lk_X5_115 hf (fun _ h => mX3_shareOf h) rfl rfl (Nat.le_of_ble_eq_true rfl) ⟨by decide, by decide⟩ ⟨Nat.le_of_ble_eq_true rfl, Nat.le_of_ble_eq_true rfl⟩ (fun x7 hf => ?_)
        refine pz_lstore_n hC dX5_ownOf_41 (by decide) rfl ?_
        refine pz_aload_n hC dX5_ownOf_42 1 rfl ?_
        refine pz_aload_n hC dX5_ownOf_43 2 rfl ?_
        refine pz_aload_n hC dX5_ownOf_44 2 rfl ?_
        refine pz_getI hC dX5_ownOf_45 fa_X5_138 hf (fun v8 hf => ?_)
        refine pz_aload_n hC dX5_ownOf_48 2 rfl ?_
        refine pz_getI hC dX5_ownOf_49 fa_X5_35 hf (fun v9 hf => ?_)
        refine pz_aload_n hC dX5_ownOf_52 2 rfl ?_
        refine pz_getI hC dX5_ownOf_53 fa_X5_35 hf (fun v10 hf => ?_)
        refine pz_Vlw (As := [.ref p1, .int v8, .int v9, .int v10]) hC hK dX5_ownOf_56 py_X5_annuityOf pv_X5_annuityOf lk_X5_142 hf (fun _ h => mX5_annuityOf h) rfl rfl (Nat.le_of_ble_eq_true rfl) ⟨by decide, by decide⟩ ⟨Nat.le_of_ble_eq_true rfl, Nat.le_of_ble_eq_true rfl⟩ (fun x11 hf => ?_)
        refine pz_lstore hC dX5_ownOf_59 (by decide) rfl ?_
        refine pz_lload_n hC dX5_ownOf_61 1 rfl ?_
        refine pz_lload hC dX5_ownOf_62 0 rfl ?_
        refine pz_aload_n hC dX5_ownOf_64 2 rfl ?_
        refine pz_aload_n hC dX5_ownOf_65 3 rfl ?_
        refine pz_aload_n hC dX5_ownOf_66 4 rfl ?_
        refine pz_getI hC dX5_ownOf_67 fa_X5_141 hf (fun v12 hf => ?_)
        refine pz_aload_n hC dX5_ownOf_70 3 rfl ?_
        refine pz_getI hC dX5_ownOf_71 fa_X5_35 hf (fun v13 hf => ?_)
        refine pz_aload_n hC dX5_ownOf_74 3 rfl ?_
        refine pz_aload_n hC dX5_ownOf_75 4 rfl ?_
        refine pz_Vi (As := [.ref p2]) hC hK dX5_ownOf_76 py_X3_beginOf pv_X3_beginOf lk_X5_104 hf (fun _ h => mX3_beginOf h) rfl rfl (Nat.le_of_ble_eq_true rfl) ⟨by decide, by decide⟩ ⟨Nat.le_of_ble_eq_true rfl, Nat.le_of_ble_eq_true rfl⟩ (fun x14 hf => ?_)
        refine pz_Vlw (As := [.ref p1, .int v12, .int v13, .int x14]) hC hK dX5_ownOf_79 py_X5_annuityOf pv_X5_annuityOf lk_X5_142 hf (fun _ h => mX5_annuityOf h) rfl rfl (Nat.le_of_ble_eq_true rfl) ⟨by decide, by decide⟩ ⟨Nat.le_of_ble_eq_true rfl, Nat.le_of_ble_eq_true rfl⟩ (fun x15 hf => ?_)
        refine pz_Sl (As := [.long x7, .long x11.1, .long x15.1]) hC hK dX5_ownOf_82 py_X5_ownBy ps_X5_ownBy lk_X5_146 hf (fun _ h => mX5_ownBy h) rfl rfl (Nat.le_of_ble_eq_true rfl) ⟨by decide, by decide⟩ ⟨by decide, by decide⟩ (fun x16 hf => ?_)
        exact pz_lretw hC hK dX5_ownOf_85 hf
      · refine pz_sub [] rfl ?_
        exact tX5_ownOf_30 hC hK hf
def fX5_prepare_45 (k7 : pz_H → Nat → Nat → Int32 → Option pz_H) (f : pz_H) (l0 : Nat) (l1 : Nat) (l2 : Int32) (s0 : Int64) (s1 : Int32) (s2 : Nat) : Option pz_H :=
  (pz_tL f s2 1 s1 s0).bind fun f1 =>
  k7 f1 l0 l1 ((l2 + 1))
theorem tX5_prepare_45 {G : pz_G} {C : pz_C} {f : pz_H} {k7 : pz_H → Nat → Nat → Int32 → Option pz_H} {l0 : Nat} {l1 : Nat} {l2 : Int32} {s0 : Int64} {s1 : Int32} {s2 : Nat} {r : pz_H} (hC : pz_OK G C cX5_prepare 4 RX5) (hK : pz_K C none 4 105 0 0) (hk7 : ∀ (g : pz_H) (a0 : Nat) (a1 : Nat) (a2 : Int32), k7 g a0 a1 a2 = some r → pz_W G C 4 7 [(0, .ref a0), (1, .ref a1), (2, .int a2)] [] g 0 0 (pz_Q G C none r 0 0)) (hf : fX5_prepare_45 k7 f l0 l1 l2 s0 s1 s2 = some r) : pz_W G C 4 45 [(0, .ref l0), (1, .ref l1), (2, .int l2)] [.long s0, .int s1, .ref s2] f 0 0 (pz_Q G C none r 0 0) := by
  unfold fX5_prepare_45 at hf
  refine pz_last hC dX5_prepare_45 hf (fun f1 hf => ?_)
  refine pz_iinc (v := (l2 + 1)) hC dX5_prepare_46 2 rfl rfl (by decide) rfl ?_
  refine pz_goto hC dX5_prepare_49 ?_
  refine pz_sub [1, 2, 0] rfl ?_
  exact hk7 _ _ _ _ hf
def fX5_prepare_7b (k7 : pz_H → Nat → Nat → Int32 → Option pz_H) (f : pz_H) (l0 : Nat) (l1 : Nat) (l2 : Int32) : Option pz_H :=
  (pz_gI f l1 2 8).bind fun v1 =>
  if v1 ≤ l2 then some f else
  (pz_gR f l1 2 7).bind fun v2 =>
  (pz_aR f v2 4 l2).bind fun v3 =>
  (pz_gR f l0 4 4).bind fun v4 =>
  (pz_gI f v3 6 4).bind fun v5 =>
  if v5 = (1 : Int32) then (fnX5_ownOf f l0 l1 v3).bind fun x6 =>
  fX5_prepare_45 k7 x6.2 l0 l1 l2 x6.1 l2 v4 else
  fX5_prepare_45 k7 f l0 l1 l2 ((0 : Int64)) l2 v4
theorem tX5_prepare_7b {G : pz_G} {C : pz_C} {f : pz_H} {k7 : pz_H → Nat → Nat → Int32 → Option pz_H} {l0 : Nat} {l1 : Nat} {l2 : Int32} {r : pz_H} (hC : pz_OK G C cX5_prepare 4 RX5) (hK : pz_K C none 4 105 0 0) (hk7 : ∀ (g : pz_H) (a0 : Nat) (a1 : Nat) (a2 : Int32), k7 g a0 a1 a2 = some r → pz_W G C 4 7 [(0, .ref a0), (1, .ref a1), (2, .int a2)] [] g 0 0 (pz_Q G C none r 0 0)) (hf : fX5_prepare_7b k7 f l0 l1 l2 = some r) : pz_W G C 4 7 [(0, .ref l0), (1, .ref l1), (2, .int l2)] [] f 0 0 (pz_Q G C none r 0 0) := by
  unfold fX5_prepare_7b at hf
  refine pz_iload_n hC dX5_prepare_7 2 rfl ?_
  refine pz_aload_n hC dX5_prepare_8 1 rfl ?_
  refine pz_getI hC dX5_prepare_9 fa_X5_68 hf (fun v1 hf => ?_)
  refine pz_icmp_ge hC dX5_prepare_12 hf (fun _ hf => ?_) (fun _ hf => ?_)
  · exact pz_vret hC hK dX5_prepare_52 hf
  · refine pz_aload_n hC dX5_prepare_15 1 rfl ?_
    refine pz_getR hC dX5_prepare_16 fa_X5_71 hf (fun v2 hf => ?_)
    refine pz_iload_n hC dX5_prepare_19 2 rfl ?_
    refine pz_aald hC dX5_prepare_20 (fun _ => rfl) (by decide) hf (fun v3 hf => ?_)
    refine pz_astore_n hC dX5_prepare_21 (by decide) rfl ?_
    refine pz_aload_n hC dX5_prepare_22 1 rfl ?_
    refine pz_getR hC dX5_prepare_23 fa_X5_24 hf (fun v4 hf => ?_)
    refine pz_iload_n hC dX5_prepare_26 3 rfl ?_
    refine pz_aload_n hC dX5_prepare_27 0 rfl ?_
    refine pz_getI hC dX5_prepare_28 fa_X5_75 hf (fun v5 hf => ?_)
    refine pz_iconst (v := (1 : Int32)) hC dX5_prepare_31 (by decide) ?_
    refine pz_icmp_ne hC dX5_prepare_32 hf (fun _ hf => ?_) (fun _ hf => ?_)
    · refine pz_lconst (v := 0) hC dX5_prepare_44 (by decide) ?_
      refine pz_sub [1, 2, 3] rfl ?_
      exact tX5_prepare_45 hC hK hk7 hf
    · refine pz_aload_n hC dX5_prepare_35 1 rfl ?_
      refine pz_aload_n hC dX5_prepare_36 2 rfl ?_
      refine pz_aload_n hC dX5_prepare_37 0 rfl ?_
      refine pz_Vlw (As := [.ref l1, .ref v3]) hC hK dX5_prepare_38 py_X5_ownOf pv_X5_ownOf lk_X5_78 hf (fun _ h => mX5_ownOf h) rfl rfl (Nat.le_of_ble_eq_true rfl) ⟨by decide, by decide⟩ ⟨Nat.le_of_ble_eq_true rfl, Nat.le_of_ble_eq_true rfl⟩ (fun x6 hf => ?_)
      refine pz_goto hC dX5_prepare_41 ?_
      refine pz_sub [1, 2, 3] rfl ?_
      exact tX5_prepare_45 hC hK hk7 hf
def fX5_prepare_7 : Nat → pz_H → Nat → Nat → Int32 → Option pz_H
  | 0, _, _, _, _ => none
  | n + 1, f, l0, l1, l2 => fX5_prepare_7b (fX5_prepare_7 n) f l0 l1 l2
theorem tX5_prepare_7 {G : pz_G} {C : pz_C} {r : pz_H} (hC : pz_OK G C cX5_prepare 4 RX5) (hK : pz_K C none 4 105 0 0) : ∀ (N : Nat) (f : pz_H) (l0 : Nat) (l1 : Nat) (l2 : Int32), fX5_prepare_7 N f l0 l1 l2 = some r → pz_W G C 4 7 [(0, .ref l0), (1, .ref l1), (2, .int l2)] [] f 0 0 (pz_Q G C none r 0 0) := by
  intro N
  induction N with
  | zero => intro f l0 l1 l2 hf; cases hf
  | succ N ih => intro f l0 l1 l2 hf; exact tX5_prepare_7b hC hK (fun f l0 l1 l2 hf => ih f l0 l1 l2 hf) hf
def fnX5_prepare (f : pz_H) (a0 : Nat) (p1 : Nat) : Option pz_H :=
  (pz_is f a0 4).bind fun _ =>
  (fnX5_fillWholes f a0 p1).bind fun x1 =>
  fX5_prepare_7 pz_F x1 a0 p1 ((0 : Int32))
theorem mX5_prepare {l : Launch} {G : pz_G} {f : pz_H} {a0 : Nat} {p1 : Nat} {r : pz_H} (hf : fnX5_prepare f a0 p1 = some r) : pz_Met l G yX5_prepare cX5_prepare 4 none 4 105 0 0 [.ref a0, .ref p1] f none r ∧ pz_is f a0 4 = some () := by
  unfold fnX5_prepare at hf
  obtain ⟨_, h0, hf⟩ := pz_bd hf
  refine ⟨pz_enter (by decide +kernel) (Nat.le_of_ble_eq_true rfl) (fun C hl hC hK hnm => ?_), h0⟩
  subst hl
  refine pz_sub (lv' := [(0, .ref a0), (1, .ref p1)]) [0, 1] rfl ?_
  refine pz_aload_n hC dX5_prepare_0 0 rfl ?_
  refine pz_aload_n hC dX5_prepare_1 1 rfl ?_
  refine pz_Vv (As := [.ref p1]) hC hK dX5_prepare_2 py_X5_fillWholes pv_X5_fillWholes lk_X5_64 hf (fun _ h => mX5_fillWholes h) rfl rfl (Nat.le_of_ble_eq_true rfl) ⟨by decide, by decide⟩ ⟨Nat.le_of_ble_eq_true rfl, Nat.le_of_ble_eq_true rfl⟩ (fun x1 hf => ?_)
  refine pz_iconst (v := (0 : Int32)) hC dX5_prepare_5 (by decide) ?_
  refine pz_istore_n hC dX5_prepare_6 (by decide) rfl ?_
  refine pz_sub [1, 2, 0] rfl ?_
  exact tX5_prepare_7 hC hK _ _ _ _ _ hf
def fX5_isAlive_15 (s0 : Int32) : Option Int32 :=
  pz_b s0
theorem tX5_isAlive_15 {G : pz_G} {C : pz_C} {f : pz_H} {s0 : Int32} {r : Int32} (hC : pz_OK G C cX5_isAlive 2 RX5) (hK : pz_K C (some .boolean) 0 0 0 0) (hf : fX5_isAlive_15 s0 = some r) : pz_W G C 2 15 [] [.int s0] f 0 0 (pz_Q G C (some (.int r)) f 0 0) := by
  unfold fX5_isAlive_15 at hf
  exact pz_zret hC hK dX5_isAlive_15 hf
def fX5_isAlive_10 : Option Int32 :=
  fX5_isAlive_15 ((1 : Int32))
theorem tX5_isAlive_10 {G : pz_G} {C : pz_C} {f : pz_H} {r : Int32} (hC : pz_OK G C cX5_isAlive 2 RX5) (hK : pz_K C (some .boolean) 0 0 0 0) (hf : fX5_isAlive_10 = some r) : pz_W G C 2 10 [] [] f 0 0 (pz_Q G C (some (.int r)) f 0 0) := by
  unfold fX5_isAlive_10 at hf
  refine pz_iconst (v := (1 : Int32)) hC dX5_isAlive_10 (by decide) ?_
  refine pz_goto hC dX5_isAlive_11 ?_
  exact tX5_isAlive_15 hC hK hf
def fnX5_isAlive (p0 : Int32) (p1 : Int32) : Option Int32 :=
  if p0 = ((-1) : Int32) then fX5_isAlive_10 else
  if p0 ≤ p1 then fX5_isAlive_15 ((0 : Int32)) else
  fX5_isAlive_10
theorem mX5_isAlive {l : Launch} {G : pz_G} {f : pz_H} {p0 : Int32} {p1 : Int32} {r : Int32} (hf : fnX5_isAlive p0 p1 = some r) : pz_Met l G yX5_isAlive cX5_isAlive 2 (some .boolean) 0 0 0 0 [.int p0, .int p1] f (some (.int r)) f := by
  unfold fnX5_isAlive at hf
  refine pz_enter (by decide +kernel) (Nat.le_of_ble_eq_true rfl) (fun C hl hC hK hnm => ?_)
  subst hl
  refine pz_sub (lv' := [(0, .int p0), (1, .int p1)]) [0, 1] rfl ?_
  refine pz_iload_n hC dX5_isAlive_0 0 rfl ?_
  refine pz_iconst (v := ((-1) : Int32)) hC dX5_isAlive_1 (by decide) ?_
  refine pz_icmp_eq hC dX5_isAlive_2 hf (fun _ hf => ?_) (fun _ hf => ?_)
  · refine pz_sub [] rfl ?_
    exact tX5_isAlive_10 hC hK hf
  · refine pz_iload_n hC dX5_isAlive_5 1 rfl ?_
    refine pz_iload_n hC dX5_isAlive_6 0 rfl ?_
    refine pz_icmp_ge hC dX5_isAlive_7 hf (fun _ hf => ?_) (fun _ hf => ?_)
    · refine pz_iconst (v := (0 : Int32)) hC dX5_isAlive_14 (by decide) ?_
      refine pz_sub [] rfl ?_
      exact tX5_isAlive_15 hC hK hf
    · refine pz_sub [] rfl ?_
      exact tX5_isAlive_10 hC hK hf
def fX5_paidToSpouse_25 (f : pz_H) : Option Int64 :=
  some ((0 : Int64))
theorem tX5_paidToSpouse_25 {G : pz_G} {C : pz_C} {f : pz_H} {r : Int64} (hC : pz_OK G C cX5_paidToSpouse 8 RX5) (hK : pz_K C (some .long) 2 44 0 0) (hf : fX5_paidToSpouse_25 f = some r) : pz_W G C 8 25 [] [] f 0 0 (pz_Q G C (some (.long r)) f 0 0) := by
  unfold fX5_paidToSpouse_25 at hf
  refine pz_lconst (v := 0) hC dX5_paidToSpouse_25 (by decide) ?_
  exact pz_lret hC hK dX5_paidToSpouse_26 hf
def fX5_paidToSpouse_92 (f : pz_H) (s0 : Int64) : Option Int64 :=
  some s0
theorem tX5_paidToSpouse_92 {G : pz_G} {C : pz_C} {f : pz_H} {s0 : Int64} {r : Int64} (hC : pz_OK G C cX5_paidToSpouse 8 RX5) (hK : pz_K C (some .long) 2 44 0 0) (hf : fX5_paidToSpouse_92 f s0 = some r) : pz_W G C 8 92 [] [.long s0] f 0 0 (pz_Q G C (some (.long r)) f 0 0) := by
  unfold fX5_paidToSpouse_92 at hf
  exact pz_lret hC hK dX5_paidToSpouse_92 hf
def fnX5_paidToSpouse (f : pz_H) (a0 : Nat) (p1 : Nat) (p2 : Nat) (p3 : Int32) (p4 : Int64) : Option Int64 :=
  (pz_is f a0 4).bind fun _ =>
  (fnX7_isPartedBy f p2 p3).bind fun x1 =>
  if x1 = 0 then fX5_paidToSpouse_25 f else
  (pz_gI f p1 2 1).bind fun v2 =>
  if v2 = ((-1) : Int32) then fX5_paidToSpouse_25 f else
  (fnX3_beginOf f p1 p2).bind fun x3 =>
  if x3 ≤ p3 then (pz_gI f p2 6 7).bind fun v4 =>
  (fnX5_isAlive v4 p3).bind fun x5 =>
  if x5 = 0 then some ((0 : Int64)) else
  (pz_gI f p2 6 4).bind fun v6 =>
  if v6 = (1 : Int32) then some p4 else
  (pz_gR f a0 4 0).bind fun v7 =>
  (pz_aI f v7 0 p3).bind fun v8 =>
  (fnX3_shareOf f p1 p2 v8).bind fun x9 =>
  (pz_gI f p1 2 2).bind fun v10 =>
  (fnX5_isAlive v10 p3).bind fun x11 =>
  if x11 = 0 then (pz_gI f p2 6 5).bind fun v12 =>
  fX5_paidToSpouse_92 f (((x9 * v12.toInt64) / (1000 : Int64))) else
  fX5_paidToSpouse_92 f x9 else
  fX5_paidToSpouse_25 f
theorem mX5_paidToSpouse {l : Launch} {G : pz_G} {f : pz_H} {a0 : Nat} {p1 : Nat} {p2 : Nat} {p3 : Int32} {p4 : Int64} {r : Int64} (hf : fnX5_paidToSpouse f a0 p1 p2 p3 p4 = some r) : pz_Met l G yX5_paidToSpouse cX5_paidToSpouse 8 (some .long) 2 44 0 0 [.ref a0, .ref p1, .ref p2, .int p3, .long p4] f (some (.long r)) f ∧ pz_is f a0 4 = some () := by
  unfold fnX5_paidToSpouse at hf
  obtain ⟨_, h0, hf⟩ := pz_bd hf
  refine ⟨pz_enter (by decide +kernel) (Nat.le_of_ble_eq_true rfl) (fun C hl hC hK hnm => ?_), h0⟩
  subst hl
  refine pz_sub (lv' := [(0, .ref a0), (1, .ref p1), (2, .ref p2), (3, .int p3), (4, .long p4)]) [0, 1, 2, 3, 4] rfl ?_
  refine pz_aload_n hC dX5_paidToSpouse_0 2 rfl ?_
  refine pz_iload_n hC dX5_paidToSpouse_1 3 rfl ?_
  refine pz_Vi (As := [.int p3]) hC hK dX5_paidToSpouse_2 py_X7_isPartedBy pv_X7_isPartedBy lk_X5_101 hf (fun _ h => mX7_isPartedBy h) rfl rfl (Nat.le_of_ble_eq_true rfl) ⟨by decide, by decide⟩ ⟨Nat.le_of_ble_eq_true rfl, Nat.le_of_ble_eq_true rfl⟩ (fun x1 hf => ?_)
  refine pz_if_eq hC dX5_paidToSpouse_5 hf (fun _ hf => ?_) (fun _ hf => ?_)
  · refine pz_sub [] rfl ?_
    exact tX5_paidToSpouse_25 hC hK hf
  · refine pz_aload_n hC dX5_paidToSpouse_8 1 rfl ?_
    refine pz_getI hC dX5_paidToSpouse_9 fa_X5_35 hf (fun v2 hf => ?_)
    refine pz_iconst (v := ((-1) : Int32)) hC dX5_paidToSpouse_12 (by decide) ?_
    refine pz_icmp_eq hC dX5_paidToSpouse_13 hf (fun _ hf => ?_) (fun _ hf => ?_)
    · refine pz_sub [] rfl ?_
      exact tX5_paidToSpouse_25 hC hK hf
    · refine pz_iload_n hC dX5_paidToSpouse_16 3 rfl ?_
      refine pz_aload_n hC dX5_paidToSpouse_17 1 rfl ?_
      refine pz_aload_n hC dX5_paidToSpouse_18 2 rfl ?_
      refine pz_Vi (As := [.ref p2]) hC hK dX5_paidToSpouse_19 py_X3_beginOf pv_X3_beginOf lk_X5_104 hf (fun _ h => mX3_beginOf h) rfl rfl (Nat.le_of_ble_eq_true rfl) ⟨by decide, by decide⟩ ⟨Nat.le_of_ble_eq_true rfl, Nat.le_of_ble_eq_true rfl⟩ (fun x3 hf => ?_)
      refine pz_icmp_ge hC dX5_paidToSpouse_22 hf (fun _ hf => ?_) (fun _ hf => ?_)
      · refine pz_aload_n hC dX5_paidToSpouse_27 2 rfl ?_
        refine pz_getI hC dX5_paidToSpouse_28 fa_X5_108 hf (fun v4 hf => ?_)
        refine pz_iload_n hC dX5_paidToSpouse_31 3 rfl ?_
        refine pz_Si (As := [.int v4, .int p3]) hC hK dX5_paidToSpouse_32 py_X5_isAlive ps_X5_isAlive lk_X5_111 hf (fun _ h => mX5_isAlive h) rfl rfl (Nat.le_of_ble_eq_true rfl) ⟨by decide, by decide⟩ ⟨by decide, by decide⟩ (fun x5 hf => ?_)
        refine pz_if_ne hC dX5_paidToSpouse_35 hf (fun _ hf => ?_) (fun _ hf => ?_)
        · refine pz_aload_n hC dX5_paidToSpouse_40 2 rfl ?_
          refine pz_getI hC dX5_paidToSpouse_41 fa_X5_75 hf (fun v6 hf => ?_)
          refine pz_iconst (v := (1 : Int32)) hC dX5_paidToSpouse_44 (by decide) ?_
          refine pz_icmp_ne hC dX5_paidToSpouse_45 hf (fun _ hf => ?_) (fun _ hf => ?_)
          · refine pz_aload_n hC dX5_paidToSpouse_51 1 rfl ?_
            refine pz_aload_n hC dX5_paidToSpouse_52 2 rfl ?_
            refine pz_aload_n hC dX5_paidToSpouse_53 0 rfl ?_
            refine pz_getR hC dX5_paidToSpouse_54 fa_X5_9 hf (fun v7 hf => ?_)
            refine pz_iload_n hC dX5_paidToSpouse_57 3 rfl ?_
            refine pz_iald hC dX5_paidToSpouse_58 hf (fun v8 hf => ?_)
            refine pz_Vl (As := [.ref p2, .int v8]) hC hK dX5_paidToSpouse_59 py_X3_shareOf pv_X3_shareOf lk_X5_115 hf (fun _ h => mX3_shareOf h) rfl rfl (Nat.le_of_ble_eq_true rfl) ⟨by decide, by decide⟩ ⟨Nat.le_of_ble_eq_true rfl, Nat.le_of_ble_eq_true rfl⟩ (fun x9 hf => ?_)
            refine pz_lstore hC dX5_paidToSpouse_62 (by decide) rfl ?_
            refine pz_aload_n hC dX5_paidToSpouse_64 2 rfl ?_
            refine pz_getI hC dX5_paidToSpouse_65 fa_X5_119 hf (fun v10 hf => ?_)
            refine pz_iload_n hC dX5_paidToSpouse_68 4 rfl ?_
            refine pz_Si (As := [.int v10, .int p3]) hC hK dX5_paidToSpouse_69 py_X5_isAlive ps_X5_isAlive lk_X5_111 hf (fun _ h => mX5_isAlive h) rfl rfl (Nat.le_of_ble_eq_true rfl) ⟨by decide, by decide⟩ ⟨by decide, by decide⟩ (fun x11 hf => ?_)
            refine pz_if_eq hC dX5_paidToSpouse_72 hf (fun _ hf => ?_) (fun _ hf => ?_)
            · refine pz_lload hC dX5_paidToSpouse_80 0 rfl ?_
              refine pz_aload_n hC dX5_paidToSpouse_82 3 rfl ?_
              refine pz_getI hC dX5_paidToSpouse_83 fa_X5_120 hf (fun v12 hf => ?_)
              refine pz_i2l hC dX5_paidToSpouse_86 ?_
              refine pz_lmul hC dX5_paidToSpouse_87 ?_
              refine pz_ldc2 hC dX5_paidToSpouse_88 ck_X5_48 ?_
              refine pz_ldivc hC dX5_paidToSpouse_91 (by decide) ?_
              refine pz_sub [] rfl ?_
              exact tX5_paidToSpouse_92 hC hK hf
            · refine pz_lload hC dX5_paidToSpouse_75 0 rfl ?_
              refine pz_goto hC dX5_paidToSpouse_77 ?_
              refine pz_sub [] rfl ?_
              exact tX5_paidToSpouse_92 hC hK hf
          · refine pz_lload hC dX5_paidToSpouse_48 4 rfl ?_
            exact pz_lret hC hK dX5_paidToSpouse_50 hf
        · refine pz_lconst (v := 0) hC dX5_paidToSpouse_38 (by decide) ?_
          exact pz_lret hC hK dX5_paidToSpouse_39 hf
      · refine pz_sub [] rfl ?_
        exact tX5_paidToSpouse_25 hC hK hf
