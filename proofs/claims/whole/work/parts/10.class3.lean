def fX5_paidToMember_89 (k24 : Nat → Nat → Int32 → Int64 → Int32 → Option Int64) (f : pz_H) (l0 : Nat) (l1 : Nat) (l2 : Int32) (l3 : Int64) (l5 : Int32) : Option Int64 :=
  k24 l0 l1 l2 l3 ((l5 + 1))
theorem tX5_paidToMember_89 {G : pz_G} {C : pz_C} {f : pz_H} {k24 : Nat → Nat → Int32 → Int64 → Int32 → Option Int64} {l0 : Nat} {l1 : Nat} {l2 : Int32} {l3 : Int64} {l5 : Int32} {r : Int64} (hC : pz_OK G C cX5_paidToMember 7 RX5) (hK : pz_K C (some .long) 3 71 0 0) (hk24 : ∀ (a0 : Nat) (a1 : Nat) (a2 : Int32) (a3 : Int64) (a5 : Int32), k24 a0 a1 a2 a3 a5 = some r → pz_W G C 7 24 [(0, .ref a0), (1, .ref a1), (2, .int a2), (3, .long a3), (5, .int a5)] [] f 0 0 (pz_Q G C (some (.long r)) f 0 0)) (hf : fX5_paidToMember_89 k24 f l0 l1 l2 l3 l5 = some r) : pz_W G C 7 89 [(0, .ref l0), (1, .ref l1), (2, .int l2), (3, .long l3), (5, .int l5)] [] f 0 0 (pz_Q G C (some (.long r)) f 0 0) := by
  unfold fX5_paidToMember_89 at hf
  refine pz_iinc (v := (l5 + 1)) hC dX5_paidToMember_89 4 rfl rfl (by decide) rfl ?_
  refine pz_goto hC dX5_paidToMember_92 ?_
  refine pz_sub [1, 2, 3, 4, 0] rfl ?_
  exact hk24 _ _ _ _ _ hf
def fX5_paidToMember_24b (k24 : Nat → Nat → Int32 → Int64 → Int32 → Option Int64) (f : pz_H) (l0 : Nat) (l1 : Nat) (l2 : Int32) (l3 : Int64) (l5 : Int32) : Option Int64 :=
  (pz_gI f l1 2 8).bind fun v1 =>
  if v1 ≤ l5 then some l3 else
  (pz_gR f l1 2 7).bind fun v2 =>
  (pz_aR f v2 4 l5).bind fun v3 =>
  (pz_gI f v3 6 4).bind fun v4 =>
  if v4 = 0 then (fnX5_paidToSpouse f l0 l1 v3 l2 ((0 : Int64))).bind fun x9 =>
  fX5_paidToMember_89 k24 f l0 l1 l2 ((l3 - x9)) l5 else
  (fnX7_isPartedBy f v3 l2).bind fun x5 =>
  if x5 = 0 then fX5_paidToMember_89 k24 f l0 l1 l2 l3 l5 else
  (pz_gR f l0 4 0).bind fun v6 =>
  (pz_aI f v6 0 l2).bind fun v7 =>
  (fnX3_shareOf f l1 v3 v7).bind fun x8 =>
  fX5_paidToMember_89 k24 f l0 l1 l2 ((l3 - x8)) l5
theorem tX5_paidToMember_24b {G : pz_G} {C : pz_C} {f : pz_H} {k24 : Nat → Nat → Int32 → Int64 → Int32 → Option Int64} {l0 : Nat} {l1 : Nat} {l2 : Int32} {l3 : Int64} {l5 : Int32} {r : Int64} (hC : pz_OK G C cX5_paidToMember 7 RX5) (hK : pz_K C (some .long) 3 71 0 0) (hk24 : ∀ (a0 : Nat) (a1 : Nat) (a2 : Int32) (a3 : Int64) (a5 : Int32), k24 a0 a1 a2 a3 a5 = some r → pz_W G C 7 24 [(0, .ref a0), (1, .ref a1), (2, .int a2), (3, .long a3), (5, .int a5)] [] f 0 0 (pz_Q G C (some (.long r)) f 0 0)) (hf : fX5_paidToMember_24b k24 f l0 l1 l2 l3 l5 = some r) : pz_W G C 7 24 [(0, .ref l0), (1, .ref l1), (2, .int l2), (3, .long l3), (5, .int l5)] [] f 0 0 (pz_Q G C (some (.long r)) f 0 0) := by
  unfold fX5_paidToMember_24b at hf
  refine pz_iload hC dX5_paidToMember_24 4 rfl ?_
  refine pz_aload_n hC dX5_paidToMember_26 1 rfl ?_
  refine pz_getI hC dX5_paidToMember_27 fa_X5_68 hf (fun v1 hf => ?_)
  refine pz_icmp_ge hC dX5_paidToMember_30 hf (fun _ hf => ?_) (fun _ hf => ?_)
  · refine pz_lload_n hC dX5_paidToMember_95 3 rfl ?_
    exact pz_lret hC hK dX5_paidToMember_96 hf
  · refine pz_aload_n hC dX5_paidToMember_33 1 rfl ?_
    refine pz_getR hC dX5_paidToMember_34 fa_X5_71 hf (fun v2 hf => ?_)
    refine pz_iload hC dX5_paidToMember_37 4 rfl ?_
    refine pz_aald hC dX5_paidToMember_39 (fun _ => rfl) (by decide) hf (fun v3 hf => ?_)
    refine pz_astore hC dX5_paidToMember_40 (by decide) rfl ?_
    refine pz_aload hC dX5_paidToMember_42 0 rfl ?_
    refine pz_getI hC dX5_paidToMember_44 fa_X5_75 hf (fun v4 hf => ?_)
    refine pz_if_ne hC dX5_paidToMember_47 hf (fun _ hf => ?_) (fun _ hf => ?_)
    · refine pz_aload hC dX5_paidToMember_65 0 rfl ?_
      refine pz_iload_n hC dX5_paidToMember_67 3 rfl ?_
      refine pz_Vi (As := [.int l2]) hC hK dX5_paidToMember_68 py_X7_isPartedBy pv_X7_isPartedBy lk_X5_101 hf (fun _ h => mX7_isPartedBy h) rfl rfl (Nat.le_of_ble_eq_true rfl) ⟨by decide, by decide⟩ ⟨Nat.le_of_ble_eq_true rfl, Nat.le_of_ble_eq_true rfl⟩ (fun x5 hf => ?_)
      refine pz_if_eq hC dX5_paidToMember_71 hf (fun _ hf => ?_) (fun _ hf => ?_)
      · refine pz_sub [1, 2, 3, 4, 5] rfl ?_
        exact tX5_paidToMember_89 hC hK hk24 hf
      · refine pz_lload_n hC dX5_paidToMember_74 4 rfl ?_
        refine pz_aload_n hC dX5_paidToMember_75 2 rfl ?_
        refine pz_aload hC dX5_paidToMember_76 0 rfl ?_
        refine pz_aload_n hC dX5_paidToMember_78 1 rfl ?_
        refine pz_getR hC dX5_paidToMember_79 fa_X5_9 hf (fun v6 hf => ?_)
        refine pz_iload_n hC dX5_paidToMember_82 3 rfl ?_
        refine pz_iald hC dX5_paidToMember_83 hf (fun v7 hf => ?_)
        refine pz_Vl (As := [.ref v3, .int v7]) hC hK dX5_paidToMember_84 py_X3_shareOf pv_X3_shareOf lk_X5_115 hf (fun _ h => mX3_shareOf h) rfl rfl (Nat.le_of_ble_eq_true rfl) ⟨by decide, by decide⟩ ⟨Nat.le_of_ble_eq_true rfl, Nat.le_of_ble_eq_true rfl⟩ (fun x8 hf => ?_)
        refine pz_lsub hC dX5_paidToMember_87 ?_
        refine pz_lstore_n hC dX5_paidToMember_88 (by decide) rfl ?_
        refine pz_sub [2, 3, 4, 0, 5] rfl ?_
        exact tX5_paidToMember_89 hC hK hk24 hf
    · refine pz_lload_n hC dX5_paidToMember_50 4 rfl ?_
      refine pz_aload_n hC dX5_paidToMember_51 1 rfl ?_
      refine pz_aload_n hC dX5_paidToMember_52 2 rfl ?_
      refine pz_aload hC dX5_paidToMember_53 0 rfl ?_
      refine pz_iload_n hC dX5_paidToMember_55 3 rfl ?_
      refine pz_lconst (v := 0) hC dX5_paidToMember_56 (by decide) ?_
      refine pz_Vl (As := [.ref l1, .ref v3, .int l2, .long (0 : Int64)]) hC hK dX5_paidToMember_57 py_X5_paidToSpouse pv_X5_paidToSpouse lk_X5_97 hf (fun _ h => mX5_paidToSpouse h) rfl rfl (Nat.le_of_ble_eq_true rfl) ⟨by decide, by decide⟩ ⟨Nat.le_of_ble_eq_true rfl, Nat.le_of_ble_eq_true rfl⟩ (fun x9 hf => ?_)
      refine pz_lsub hC dX5_paidToMember_60 ?_
      refine pz_lstore_n hC dX5_paidToMember_61 (by decide) rfl ?_
      refine pz_goto hC dX5_paidToMember_62 ?_
      refine pz_sub [2, 3, 4, 0, 5] rfl ?_
      exact tX5_paidToMember_89 hC hK hk24 hf
def fX5_paidToMember_24 (f : pz_H) : Nat → Nat → Nat → Int32 → Int64 → Int32 → Option Int64
  | 0, _, _, _, _, _ => none
  | n + 1, l0, l1, l2, l3, l5 => fX5_paidToMember_24b (fX5_paidToMember_24 f n) f l0 l1 l2 l3 l5
theorem tX5_paidToMember_24 {G : pz_G} {C : pz_C} {f : pz_H} {r : Int64} (hC : pz_OK G C cX5_paidToMember 7 RX5) (hK : pz_K C (some .long) 3 71 0 0) : ∀ (N : Nat) (l0 : Nat) (l1 : Nat) (l2 : Int32) (l3 : Int64) (l5 : Int32), fX5_paidToMember_24 f N l0 l1 l2 l3 l5 = some r → pz_W G C 7 24 [(0, .ref l0), (1, .ref l1), (2, .int l2), (3, .long l3), (5, .int l5)] [] f 0 0 (pz_Q G C (some (.long r)) f 0 0) := by
  intro N
  induction N with
  | zero => intro l0 l1 l2 l3 l5 hf; cases hf
  | succ N ih => intro l0 l1 l2 l3 l5 hf; exact tX5_paidToMember_24b hC hK (fun l0 l1 l2 l3 l5 hf => ih l0 l1 l2 l3 l5 hf) hf
def fnX5_paidToMember (f : pz_H) (a0 : Nat) (p1 : Nat) (p2 : Int32) : Option Int64 :=
  (pz_is f a0 4).bind fun _ =>
  (pz_gI f p1 2 2).bind fun v1 =>
  (fnX5_isAlive v1 p2).bind fun x2 =>
  if x2 = 0 then some ((0 : Int64)) else
  (pz_gR f a0 4 0).bind fun v3 =>
  (pz_aI f v3 0 p2).bind fun v4 =>
  fX5_paidToMember_24 f pz_F a0 p1 p2 v4.toInt64 ((0 : Int32))
theorem mX5_paidToMember {l : Launch} {G : pz_G} {f : pz_H} {a0 : Nat} {p1 : Nat} {p2 : Int32} {r : Int64} (hf : fnX5_paidToMember f a0 p1 p2 = some r) : pz_Met l G yX5_paidToMember cX5_paidToMember 7 (some .long) 3 71 0 0 [.ref a0, .ref p1, .int p2] f (some (.long r)) f ∧ pz_is f a0 4 = some () := by
  unfold fnX5_paidToMember at hf
  obtain ⟨_, h0, hf⟩ := pz_bd hf
  refine ⟨pz_enter (by decide +kernel) (Nat.le_of_ble_eq_true rfl) (fun C hl hC hK hnm => ?_), h0⟩
  subst hl
  refine pz_sub (lv' := [(0, .ref a0), (1, .ref p1), (2, .int p2)]) [0, 1, 2] rfl ?_
  refine pz_aload_n hC dX5_paidToMember_0 1 rfl ?_
  refine pz_getI hC dX5_paidToMember_1 fa_X5_119 hf (fun v1 hf => ?_)
  refine pz_iload_n hC dX5_paidToMember_4 2 rfl ?_
  refine pz_Si (As := [.int v1, .int p2]) hC hK dX5_paidToMember_5 py_X5_isAlive ps_X5_isAlive lk_X5_111 hf (fun _ h => mX5_isAlive h) rfl rfl (Nat.le_of_ble_eq_true rfl) ⟨by decide, by decide⟩ ⟨by decide, by decide⟩ (fun x2 hf => ?_)
  refine pz_if_ne hC dX5_paidToMember_8 hf (fun _ hf => ?_) (fun _ hf => ?_)
  · refine pz_aload_n hC dX5_paidToMember_13 0 rfl ?_
    refine pz_getR hC dX5_paidToMember_14 fa_X5_9 hf (fun v3 hf => ?_)
    refine pz_iload_n hC dX5_paidToMember_17 2 rfl ?_
    refine pz_iald hC dX5_paidToMember_18 hf (fun v4 hf => ?_)
    refine pz_i2l hC dX5_paidToMember_19 ?_
    refine pz_lstore_n hC dX5_paidToMember_20 (by decide) rfl ?_
    refine pz_iconst (v := (0 : Int32)) hC dX5_paidToMember_21 (by decide) ?_
    refine pz_istore hC dX5_paidToMember_22 (by decide) rfl ?_
    refine pz_sub [2, 3, 4, 1, 0] rfl ?_
    exact tX5_paidToMember_24 hC hK _ _ _ _ _ _ hf
  · refine pz_lconst (v := 0) hC dX5_paidToMember_11 (by decide) ?_
    exact pz_lret hC hK dX5_paidToMember_12 hf
def fX5_restOf_18b (k18 : Nat → Nat → Int32 → Int64 → Int32 → Option Int64) (f : pz_H) (l0 : Nat) (l1 : Nat) (l2 : Int32) (l3 : Int64) (l5 : Int32) : Option Int64 :=
  (pz_gI f l1 2 8).bind fun v1 =>
  if v1 ≤ l5 then some l3 else
  (pz_gR f l1 2 7).bind fun v2 =>
  (pz_aR f v2 4 l5).bind fun v3 =>
  (pz_gR f l0 4 4).bind fun v4 =>
  (pz_aL f v4 1 l5).bind fun v5 =>
  (fnX5_paidToSpouse f l0 l1 v3 l2 v5).bind fun x6 =>
  k18 l0 l1 l2 ((l3 - x6)) ((l5 + 1))
theorem tX5_restOf_18b {G : pz_G} {C : pz_C} {f : pz_H} {k18 : Nat → Nat → Int32 → Int64 → Int32 → Option Int64} {l0 : Nat} {l1 : Nat} {l2 : Int32} {l3 : Int64} {l5 : Int32} {r : Int64} (hC : pz_OK G C cX5_restOf 6 RX5) (hK : pz_K C (some .long) 4 97 0 0) (hk18 : ∀ (a0 : Nat) (a1 : Nat) (a2 : Int32) (a3 : Int64) (a5 : Int32), k18 a0 a1 a2 a3 a5 = some r → pz_W G C 6 18 [(0, .ref a0), (1, .ref a1), (2, .int a2), (3, .long a3), (5, .int a5)] [] f 0 0 (pz_Q G C (some (.long r)) f 0 0)) (hf : fX5_restOf_18b k18 f l0 l1 l2 l3 l5 = some r) : pz_W G C 6 18 [(0, .ref l0), (1, .ref l1), (2, .int l2), (3, .long l3), (5, .int l5)] [] f 0 0 (pz_Q G C (some (.long r)) f 0 0) := by
  unfold fX5_restOf_18b at hf
  refine pz_iload hC dX5_restOf_18 4 rfl ?_
  refine pz_aload_n hC dX5_restOf_20 1 rfl ?_
  refine pz_getI hC dX5_restOf_21 fa_X5_68 hf (fun v1 hf => ?_)
  refine pz_icmp_ge hC dX5_restOf_24 hf (fun _ hf => ?_) (fun _ hf => ?_)
  · refine pz_lload_n hC dX5_restOf_56 3 rfl ?_
    exact pz_lret hC hK dX5_restOf_57 hf
  · refine pz_lload_n hC dX5_restOf_27 3 rfl ?_
    refine pz_aload_n hC dX5_restOf_28 0 rfl ?_
    refine pz_aload_n hC dX5_restOf_29 1 rfl ?_
    refine pz_aload_n hC dX5_restOf_30 1 rfl ?_
    refine pz_getR hC dX5_restOf_31 fa_X5_71 hf (fun v2 hf => ?_)
    refine pz_iload hC dX5_restOf_34 4 rfl ?_
    refine pz_aald hC dX5_restOf_36 (fun _ => rfl) (by decide) hf (fun v3 hf => ?_)
    refine pz_iload_n hC dX5_restOf_37 2 rfl ?_
    refine pz_aload_n hC dX5_restOf_38 0 rfl ?_
    refine pz_getR hC dX5_restOf_39 fa_X5_24 hf (fun v4 hf => ?_)
    refine pz_iload hC dX5_restOf_42 4 rfl ?_
    refine pz_lald hC dX5_restOf_44 hf (fun v5 hf => ?_)
    refine pz_Vl (As := [.ref l1, .ref v3, .int l2, .long v5]) hC hK dX5_restOf_45 py_X5_paidToSpouse pv_X5_paidToSpouse lk_X5_97 hf (fun _ h => mX5_paidToSpouse h) rfl rfl (Nat.le_of_ble_eq_true rfl) ⟨by decide, by decide⟩ ⟨Nat.le_of_ble_eq_true rfl, Nat.le_of_ble_eq_true rfl⟩ (fun x6 hf => ?_)
    refine pz_lsub hC dX5_restOf_48 ?_
    refine pz_lstore_n hC dX5_restOf_49 (by decide) rfl ?_
    refine pz_iinc (v := (l5 + 1)) hC dX5_restOf_50 4 rfl rfl (by decide) rfl ?_
    refine pz_goto hC dX5_restOf_53 ?_
    refine pz_sub [2, 3, 4, 1, 0] rfl ?_
    exact hk18 _ _ _ _ _ hf
def fX5_restOf_18 (f : pz_H) : Nat → Nat → Nat → Int32 → Int64 → Int32 → Option Int64
  | 0, _, _, _, _, _ => none
  | n + 1, l0, l1, l2, l3, l5 => fX5_restOf_18b (fX5_restOf_18 f n) f l0 l1 l2 l3 l5
theorem tX5_restOf_18 {G : pz_G} {C : pz_C} {f : pz_H} {r : Int64} (hC : pz_OK G C cX5_restOf 6 RX5) (hK : pz_K C (some .long) 4 97 0 0) : ∀ (N : Nat) (l0 : Nat) (l1 : Nat) (l2 : Int32) (l3 : Int64) (l5 : Int32), fX5_restOf_18 f N l0 l1 l2 l3 l5 = some r → pz_W G C 6 18 [(0, .ref l0), (1, .ref l1), (2, .int l2), (3, .long l3), (5, .int l5)] [] f 0 0 (pz_Q G C (some (.long r)) f 0 0) := by
  intro N
  induction N with
  | zero => intro l0 l1 l2 l3 l5 hf; cases hf
  | succ N ih => intro l0 l1 l2 l3 l5 hf; exact tX5_restOf_18b hC hK (fun l0 l1 l2 l3 l5 hf => ih l0 l1 l2 l3 l5 hf) hf
def fnX5_restOf (f : pz_H) (a0 : Nat) (p1 : Nat) (p2 : Int32) : Option Int64 :=
  (pz_is f a0 4).bind fun _ =>
  (pz_gR f a0 4 0).bind fun v1 =>
  (pz_aI f v1 0 p2).bind fun v2 =>
  (fnX5_paidToMember f a0 p1 p2).bind fun x3 =>
  fX5_restOf_18 f pz_F a0 p1 p2 ((v2.toInt64 - x3)) ((0 : Int32))
theorem mX5_restOf {l : Launch} {G : pz_G} {f : pz_H} {a0 : Nat} {p1 : Nat} {p2 : Int32} {r : Int64} (hf : fnX5_restOf f a0 p1 p2 = some r) : pz_Met l G yX5_restOf cX5_restOf 6 (some .long) 4 97 0 0 [.ref a0, .ref p1, .int p2] f (some (.long r)) f ∧ pz_is f a0 4 = some () := by
  unfold fnX5_restOf at hf
  obtain ⟨_, h0, hf⟩ := pz_bd hf
  refine ⟨pz_enter (by decide +kernel) (Nat.le_of_ble_eq_true rfl) (fun C hl hC hK hnm => ?_), h0⟩
  subst hl
  refine pz_sub (lv' := [(0, .ref a0), (1, .ref p1), (2, .int p2)]) [0, 1, 2] rfl ?_
  refine pz_aload_n hC dX5_restOf_0 0 rfl ?_
  refine pz_getR hC dX5_restOf_1 fa_X5_9 hf (fun v1 hf => ?_)
  refine pz_iload_n hC dX5_restOf_4 2 rfl ?_
  refine pz_iald hC dX5_restOf_5 hf (fun v2 hf => ?_)
  refine pz_i2l hC dX5_restOf_6 ?_
  refine pz_aload_n hC dX5_restOf_7 0 rfl ?_
  refine pz_aload_n hC dX5_restOf_8 1 rfl ?_
  refine pz_iload_n hC dX5_restOf_9 2 rfl ?_
  refine pz_Vl (As := [.ref p1, .int p2]) hC hK dX5_restOf_10 py_X5_paidToMember pv_X5_paidToMember lk_X5_86 hf (fun _ h => mX5_paidToMember h) rfl rfl (Nat.le_of_ble_eq_true rfl) ⟨by decide, by decide⟩ ⟨Nat.le_of_ble_eq_true rfl, Nat.le_of_ble_eq_true rfl⟩ (fun x3 hf => ?_)
  refine pz_lsub hC dX5_restOf_13 ?_
  refine pz_lstore_n hC dX5_restOf_14 (by decide) rfl ?_
  refine pz_iconst (v := (0 : Int32)) hC dX5_restOf_15 (by decide) ?_
  refine pz_istore hC dX5_restOf_16 (by decide) rfl ?_
  refine pz_sub [2, 3, 4, 1, 0] rfl ?_
  exact tX5_restOf_18 hC hK _ _ _ _ _ _ hf
def fX5_paidTo_56 (f : pz_H) (s0 : Int64) : Option Int64 :=
  some s0
theorem tX5_paidTo_56 {G : pz_G} {C : pz_C} {f : pz_H} {s0 : Int64} {r : Int64} (hC : pz_OK G C cX5_paidTo 4 RX5) (hK : pz_K C (some .long) 5 122 0 0) (hf : fX5_paidTo_56 f s0 = some r) : pz_W G C 4 56 [] [.long s0] f 0 0 (pz_Q G C (some (.long r)) f 0 0) := by
  unfold fX5_paidTo_56 at hf
  exact pz_lret hC hK dX5_paidTo_56 hf
def fnX5_paidTo (f : pz_H) (a0 : Nat) (p1 : Nat) (p2 : Int32) (p3 : Int32) : Option Int64 :=
  (pz_is f a0 4).bind fun _ =>
  if p3 = (10 : Int32) then (fnX5_paidToMember f a0 p1 p2).bind fun x8 =>
  some x8 else
  if p3 = (11 : Int32) then (fnX5_restOf f a0 p1 p2).bind fun x7 =>
  some x7 else
  (fnX3_hasSpouse f p1 p3).bind fun x1 =>
  if x1 = 0 then fX5_paidTo_56 f ((0 : Int64)) else
  (pz_gR f p1 2 7).bind fun v2 =>
  (pz_aR f v2 4 p3).bind fun v3 =>
  (pz_gR f a0 4 4).bind fun v4 =>
  (pz_aL f v4 1 p3).bind fun v5 =>
  (fnX5_paidToSpouse f a0 p1 v3 p2 v5).bind fun x6 =>
  fX5_paidTo_56 f x6
theorem mX5_paidTo {l : Launch} {G : pz_G} {f : pz_H} {a0 : Nat} {p1 : Nat} {p2 : Int32} {p3 : Int32} {r : Int64} (hf : fnX5_paidTo f a0 p1 p2 p3 = some r) : pz_Met l G yX5_paidTo cX5_paidTo 4 (some .long) 5 122 0 0 [.ref a0, .ref p1, .int p2, .int p3] f (some (.long r)) f ∧ pz_is f a0 4 = some () := by
  unfold fnX5_paidTo at hf
  obtain ⟨_, h0, hf⟩ := pz_bd hf
  refine ⟨pz_enter (by decide +kernel) (Nat.le_of_ble_eq_true rfl) (fun C hl hC hK hnm => ?_), h0⟩
  subst hl
  refine pz_sub (lv' := [(0, .ref a0), (1, .ref p1), (2, .int p2), (3, .int p3)]) [0, 1, 2, 3] rfl ?_
  refine pz_iload_n hC dX5_paidTo_0 3 rfl ?_
  refine pz_bipush (v := (10 : Int32)) hC dX5_paidTo_1 (by decide) ?_
  refine pz_icmp_ne hC dX5_paidTo_3 hf (fun _ hf => ?_) (fun _ hf => ?_)
  · refine pz_iload_n hC dX5_paidTo_13 3 rfl ?_
    refine pz_bipush (v := (11 : Int32)) hC dX5_paidTo_14 (by decide) ?_
    refine pz_icmp_ne hC dX5_paidTo_16 hf (fun _ hf => ?_) (fun _ hf => ?_)
    · refine pz_aload_n hC dX5_paidTo_26 1 rfl ?_
      refine pz_iload_n hC dX5_paidTo_27 3 rfl ?_
      refine pz_Vi (As := [.int p3]) hC hK dX5_paidTo_28 py_X3_hasSpouse pv_X3_hasSpouse lk_X5_93 hf (fun _ h => mX3_hasSpouse h) rfl rfl (Nat.le_of_ble_eq_true rfl) ⟨by decide, by decide⟩ ⟨Nat.le_of_ble_eq_true rfl, Nat.le_of_ble_eq_true rfl⟩ (fun x1 hf => ?_)
      refine pz_if_eq hC dX5_paidTo_31 hf (fun _ hf => ?_) (fun _ hf => ?_)
      · refine pz_lconst (v := 0) hC dX5_paidTo_55 (by decide) ?_
        refine pz_sub [] rfl ?_
        exact tX5_paidTo_56 hC hK hf
      · refine pz_aload_n hC dX5_paidTo_34 0 rfl ?_
        refine pz_aload_n hC dX5_paidTo_35 1 rfl ?_
        refine pz_aload_n hC dX5_paidTo_36 1 rfl ?_
        refine pz_getR hC dX5_paidTo_37 fa_X5_71 hf (fun v2 hf => ?_)
        refine pz_iload_n hC dX5_paidTo_40 3 rfl ?_
        refine pz_aald hC dX5_paidTo_41 (fun _ => rfl) (by decide) hf (fun v3 hf => ?_)
        refine pz_iload_n hC dX5_paidTo_42 2 rfl ?_
        refine pz_aload_n hC dX5_paidTo_43 0 rfl ?_
        refine pz_getR hC dX5_paidTo_44 fa_X5_24 hf (fun v4 hf => ?_)
        refine pz_iload_n hC dX5_paidTo_47 3 rfl ?_
        refine pz_lald hC dX5_paidTo_48 hf (fun v5 hf => ?_)
        refine pz_Vl (As := [.ref p1, .ref v3, .int p2, .long v5]) hC hK dX5_paidTo_49 py_X5_paidToSpouse pv_X5_paidToSpouse lk_X5_97 hf (fun _ h => mX5_paidToSpouse h) rfl rfl (Nat.le_of_ble_eq_true rfl) ⟨by decide, by decide⟩ ⟨Nat.le_of_ble_eq_true rfl, Nat.le_of_ble_eq_true rfl⟩ (fun x6 hf => ?_)
        refine pz_goto hC dX5_paidTo_52 ?_
        refine pz_sub [] rfl ?_
        exact tX5_paidTo_56 hC hK hf
    · refine pz_aload_n hC dX5_paidTo_19 0 rfl ?_
      refine pz_aload_n hC dX5_paidTo_20 1 rfl ?_
      refine pz_iload_n hC dX5_paidTo_21 2 rfl ?_
      refine pz_Vl (As := [.ref p1, .int p2]) hC hK dX5_paidTo_22 py_X5_restOf pv_X5_restOf lk_X5_90 hf (fun _ h => mX5_restOf h) rfl rfl (Nat.le_of_ble_eq_true rfl) ⟨by decide, by decide⟩ ⟨Nat.le_of_ble_eq_true rfl, Nat.le_of_ble_eq_true rfl⟩ (fun x7 hf => ?_)
      exact pz_lret hC hK dX5_paidTo_25 hf
  · refine pz_aload_n hC dX5_paidTo_6 0 rfl ?_
    refine pz_aload_n hC dX5_paidTo_7 1 rfl ?_
    refine pz_iload_n hC dX5_paidTo_8 2 rfl ?_
    refine pz_Vl (As := [.ref p1, .int p2]) hC hK dX5_paidTo_9 py_X5_paidToMember pv_X5_paidToMember lk_X5_86 hf (fun _ h => mX5_paidToMember h) rfl rfl (Nat.le_of_ble_eq_true rfl) ⟨by decide, by decide⟩ ⟨Nat.le_of_ble_eq_true rfl, Nat.le_of_ble_eq_true rfl⟩ (fun x8 hf => ?_)
    exact pz_lret hC hK dX5_paidTo_12 hf
def fX5_paidWithin_6b (k6 : Nat → Nat → Int32 → Int32 → Int64 → Int32 → Option Int64) (f : pz_H) (l0 : Nat) (l1 : Nat) (l2 : Int32) (l4 : Int32) (l5 : Int64) (l7 : Int32) : Option Int64 :=
  if l4 ≤ l7 then some l5 else
  (fnX5_paidTo f l0 l1 l7 l2).bind fun x1 =>
  k6 l0 l1 l2 l4 ((l5 + x1)) ((l7 + 1))
theorem tX5_paidWithin_6b {G : pz_G} {C : pz_C} {f : pz_H} {k6 : Nat → Nat → Int32 → Int32 → Int64 → Int32 → Option Int64} {l0 : Nat} {l1 : Nat} {l2 : Int32} {l4 : Int32} {l5 : Int64} {l7 : Int32} {r : Int64} (hC : pz_OK G C cX5_paidWithin 8 RX5) (hK : pz_K C (some .long) 6 145 0 0) (hk6 : ∀ (a0 : Nat) (a1 : Nat) (a2 : Int32) (a4 : Int32) (a5 : Int64) (a7 : Int32), k6 a0 a1 a2 a4 a5 a7 = some r → pz_W G C 8 6 [(0, .ref a0), (1, .ref a1), (2, .int a2), (4, .int a4), (5, .long a5), (7, .int a7)] [] f 0 0 (pz_Q G C (some (.long r)) f 0 0)) (hf : fX5_paidWithin_6b k6 f l0 l1 l2 l4 l5 l7 = some r) : pz_W G C 8 6 [(0, .ref l0), (1, .ref l1), (2, .int l2), (4, .int l4), (5, .long l5), (7, .int l7)] [] f 0 0 (pz_Q G C (some (.long r)) f 0 0) := by
  unfold fX5_paidWithin_6b at hf
  refine pz_iload hC dX5_paidWithin_6 5 rfl ?_
  refine pz_iload hC dX5_paidWithin_8 3 rfl ?_
  refine pz_icmp_ge hC dX5_paidWithin_10 hf (fun _ hf => ?_) (fun _ hf => ?_)
  · refine pz_lload hC dX5_paidWithin_32 4 rfl ?_
    exact pz_lret hC hK dX5_paidWithin_34 hf
  · refine pz_lload hC dX5_paidWithin_13 4 rfl ?_
    refine pz_aload_n hC dX5_paidWithin_15 0 rfl ?_
    refine pz_aload_n hC dX5_paidWithin_16 1 rfl ?_
    refine pz_iload hC dX5_paidWithin_17 5 rfl ?_
    refine pz_iload_n hC dX5_paidWithin_19 2 rfl ?_
    refine pz_Vl (As := [.ref l1, .int l7, .int l2]) hC hK dX5_paidWithin_20 py_X5_paidTo pv_X5_paidTo lk_X5_82 hf (fun _ h => mX5_paidTo h) rfl rfl (Nat.le_of_ble_eq_true rfl) ⟨by decide, by decide⟩ ⟨Nat.le_of_ble_eq_true rfl, Nat.le_of_ble_eq_true rfl⟩ (fun x1 hf => ?_)
    refine pz_ladd hC dX5_paidWithin_23 ?_
    refine pz_lstore hC dX5_paidWithin_24 (by decide) rfl ?_
    refine pz_iinc (v := (l7 + 1)) hC dX5_paidWithin_26 5 rfl rfl (by decide) rfl ?_
    refine pz_goto hC dX5_paidWithin_29 ?_
    refine pz_sub [2, 3, 4, 5, 1, 0] rfl ?_
    exact hk6 _ _ _ _ _ _ hf
def fX5_paidWithin_6 (f : pz_H) : Nat → Nat → Nat → Int32 → Int32 → Int64 → Int32 → Option Int64
  | 0, _, _, _, _, _, _ => none
  | n + 1, l0, l1, l2, l4, l5, l7 => fX5_paidWithin_6b (fX5_paidWithin_6 f n) f l0 l1 l2 l4 l5 l7
theorem tX5_paidWithin_6 {G : pz_G} {C : pz_C} {f : pz_H} {r : Int64} (hC : pz_OK G C cX5_paidWithin 8 RX5) (hK : pz_K C (some .long) 6 145 0 0) : ∀ (N : Nat) (l0 : Nat) (l1 : Nat) (l2 : Int32) (l4 : Int32) (l5 : Int64) (l7 : Int32), fX5_paidWithin_6 f N l0 l1 l2 l4 l5 l7 = some r → pz_W G C 8 6 [(0, .ref l0), (1, .ref l1), (2, .int l2), (4, .int l4), (5, .long l5), (7, .int l7)] [] f 0 0 (pz_Q G C (some (.long r)) f 0 0) := by
  intro N
  induction N with
  | zero => intro l0 l1 l2 l4 l5 l7 hf; cases hf
  | succ N ih => intro l0 l1 l2 l4 l5 l7 hf; exact tX5_paidWithin_6b hC hK (fun l0 l1 l2 l4 l5 l7 hf => ih l0 l1 l2 l4 l5 l7 hf) hf
def fnX5_paidWithin (f : pz_H) (a0 : Nat) (p1 : Nat) (p2 : Int32) (p3 : Int32) (p4 : Int32) : Option Int64 :=
  (pz_is f a0 4).bind fun _ =>
  fX5_paidWithin_6 f pz_F a0 p1 p2 p4 ((0 : Int64)) p3
theorem mX5_paidWithin {l : Launch} {G : pz_G} {f : pz_H} {a0 : Nat} {p1 : Nat} {p2 : Int32} {p3 : Int32} {p4 : Int32} {r : Int64} (hf : fnX5_paidWithin f a0 p1 p2 p3 p4 = some r) : pz_Met l G yX5_paidWithin cX5_paidWithin 8 (some .long) 6 145 0 0 [.ref a0, .ref p1, .int p2, .int p3, .int p4] f (some (.long r)) f ∧ pz_is f a0 4 = some () := by
  unfold fnX5_paidWithin at hf
  obtain ⟨_, h0, hf⟩ := pz_bd hf
  refine ⟨pz_enter (by decide +kernel) (Nat.le_of_ble_eq_true rfl) (fun C hl hC hK hnm => ?_), h0⟩
  subst hl
  refine pz_sub (lv' := [(0, .ref a0), (1, .ref p1), (2, .int p2), (3, .int p3), (4, .int p4)]) [0, 1, 2, 3, 4] rfl ?_
  refine pz_lconst (v := 0) hC dX5_paidWithin_0 (by decide) ?_
  refine pz_lstore hC dX5_paidWithin_1 (by decide) rfl ?_
  refine pz_iload_n hC dX5_paidWithin_3 4 rfl ?_
  refine pz_istore hC dX5_paidWithin_4 (by decide) rfl ?_
  refine pz_sub [2, 3, 4, 6, 1, 0] rfl ?_
  exact tX5_paidWithin_6 hC hK _ _ _ _ _ _ _ hf
def fX5_firstCrossing_46b (k46 : pz_H → Nat → Nat → Nat → Int64 → Int64 → Int32 → Option (Int32 × pz_H)) (f : pz_H) (l0 : Nat) (l1 : Nat) (l2 : Nat) (l3 : Int64) (l5 : Int64) (l7 : Int32) : Option (Int32 × pz_H) :=
  if (1800 : Int32) ≤ l7 then some (((-1) : Int32), f) else
  (pz_gR f l0 4 5).bind fun v1 =>
  (fnX5_paidToSpouse f l0 l1 v1 l7 l3).bind fun x2 =>
  (fnX5_paidToSpouse f l0 l1 l2 l7 l3).bind fun x3 =>
  if (lg_cmp ((l5 + (x2 - x3))) ((0 : Int64))) ≤ 0 then k46 f l0 l1 l2 l3 ((l5 + (x2 - x3))) ((l7 + 1)) else
  some (l7, f)
theorem tX5_firstCrossing_46b {G : pz_G} {C : pz_C} {f : pz_H} {k46 : pz_H → Nat → Nat → Nat → Int64 → Int64 → Int32 → Option (Int32 × pz_H)} {l0 : Nat} {l1 : Nat} {l2 : Nat} {l3 : Int64} {l5 : Int64} {l7 : Int32} {r : (Int32 × pz_H)} (hC : pz_OK G C cX5_firstCrossing 8 RX5) (hK : pz_K C (some .int) 4 105 0 0) (hk46 : ∀ (g : pz_H) (a0 : Nat) (a1 : Nat) (a2 : Nat) (a3 : Int64) (a5 : Int64) (a7 : Int32), k46 g a0 a1 a2 a3 a5 a7 = some r → pz_W G C 8 46 [(0, .ref a0), (1, .ref a1), (2, .ref a2), (3, .long a3), (5, .long a5), (7, .int a7)] [] g 0 0 (pz_Q G C (some (.int r.1)) r.2 0 0)) (hf : fX5_firstCrossing_46b k46 f l0 l1 l2 l3 l5 l7 = some r) : pz_W G C 8 46 [(0, .ref l0), (1, .ref l1), (2, .ref l2), (3, .long l3), (5, .long l5), (7, .int l7)] [] f 0 0 (pz_Q G C (some (.int r.1)) r.2 0 0) := by
  unfold fX5_firstCrossing_46b at hf
  refine pz_iload hC dX5_firstCrossing_46 5 rfl ?_
  refine pz_sipush (v := (1800 : Int32)) hC dX5_firstCrossing_48 (by decide) ?_
  refine pz_icmp_ge hC dX5_firstCrossing_51 hf (fun _ hf => ?_) (fun _ hf => ?_)
  · refine pz_iconst (v := ((-1) : Int32)) hC dX5_firstCrossing_97 (by decide) ?_
    exact pz_iretw hC hK dX5_firstCrossing_98 hf
  · refine pz_lload hC dX5_firstCrossing_54 4 rfl ?_
    refine pz_aload_n hC dX5_firstCrossing_56 0 rfl ?_
    refine pz_aload_n hC dX5_firstCrossing_57 1 rfl ?_
    refine pz_aload_n hC dX5_firstCrossing_58 0 rfl ?_
    refine pz_getR hC dX5_firstCrossing_59 fa_X5_31 hf (fun v1 hf => ?_)
    refine pz_iload hC dX5_firstCrossing_62 5 rfl ?_
    refine pz_lload_n hC dX5_firstCrossing_64 3 rfl ?_
    refine pz_Vl (As := [.ref l1, .ref v1, .int l7, .long l3]) hC hK dX5_firstCrossing_65 py_X5_paidToSpouse pv_X5_paidToSpouse lk_X5_97 hf (fun _ h => mX5_paidToSpouse h) rfl rfl (Nat.le_of_ble_eq_true rfl) ⟨by decide, by decide⟩ ⟨Nat.le_of_ble_eq_true rfl, Nat.le_of_ble_eq_true rfl⟩ (fun x2 hf => ?_)
    refine pz_aload_n hC dX5_firstCrossing_68 0 rfl ?_
    refine pz_aload_n hC dX5_firstCrossing_69 1 rfl ?_
    refine pz_aload_n hC dX5_firstCrossing_70 2 rfl ?_
    refine pz_iload hC dX5_firstCrossing_71 5 rfl ?_
    refine pz_lload_n hC dX5_firstCrossing_73 3 rfl ?_
    refine pz_Vl (As := [.ref l1, .ref l2, .int l7, .long l3]) hC hK dX5_firstCrossing_74 py_X5_paidToSpouse pv_X5_paidToSpouse lk_X5_97 hf (fun _ h => mX5_paidToSpouse h) rfl rfl (Nat.le_of_ble_eq_true rfl) ⟨by decide, by decide⟩ ⟨Nat.le_of_ble_eq_true rfl, Nat.le_of_ble_eq_true rfl⟩ (fun x3 hf => ?_)
    refine pz_lsub hC dX5_firstCrossing_77 ?_
    refine pz_ladd hC dX5_firstCrossing_78 ?_
    refine pz_lstore hC dX5_firstCrossing_79 (by decide) rfl ?_
    refine pz_lload hC dX5_firstCrossing_81 0 rfl ?_
    refine pz_lconst (v := 0) hC dX5_firstCrossing_83 (by decide) ?_
    refine pz_lcmp hC dX5_firstCrossing_84 ?_
    refine pz_if_le hC dX5_firstCrossing_85 hf (fun _ hf => ?_) (fun _ hf => ?_)
    · refine pz_iinc (v := (l7 + 1)) hC dX5_firstCrossing_91 5 rfl rfl (by decide) rfl ?_
      refine pz_goto hC dX5_firstCrossing_94 ?_
      refine pz_sub [2, 3, 4, 5, 1, 0] rfl ?_
      exact hk46 _ _ _ _ _ _ _ hf
    · refine pz_iload hC dX5_firstCrossing_88 5 rfl ?_
      exact pz_iretw hC hK dX5_firstCrossing_90 hf
def fX5_firstCrossing_46 : Nat → pz_H → Nat → Nat → Nat → Int64 → Int64 → Int32 → Option (Int32 × pz_H)
  | 0, _, _, _, _, _, _, _ => none
  | n + 1, f, l0, l1, l2, l3, l5, l7 => fX5_firstCrossing_46b (fX5_firstCrossing_46 n) f l0 l1 l2 l3 l5 l7
theorem tX5_firstCrossing_46 {G : pz_G} {C : pz_C} {r : (Int32 × pz_H)} (hC : pz_OK G C cX5_firstCrossing 8 RX5) (hK : pz_K C (some .int) 4 105 0 0) : ∀ (N : Nat) (f : pz_H) (l0 : Nat) (l1 : Nat) (l2 : Nat) (l3 : Int64) (l5 : Int64) (l7 : Int32), fX5_firstCrossing_46 N f l0 l1 l2 l3 l5 l7 = some r → pz_W G C 8 46 [(0, .ref l0), (1, .ref l1), (2, .ref l2), (3, .long l3), (5, .long l5), (7, .int l7)] [] f 0 0 (pz_Q G C (some (.int r.1)) r.2 0 0) := by
  intro N
  induction N with
  | zero => intro f l0 l1 l2 l3 l5 l7 hf; cases hf
  | succ N ih => intro f l0 l1 l2 l3 l5 l7 hf; exact tX5_firstCrossing_46b hC hK (fun f l0 l1 l2 l3 l5 l7 hf => ih f l0 l1 l2 l3 l5 l7 hf) hf
def fX5_firstCrossing_37 (f : pz_H) (l0 : Nat) (l1 : Nat) (l2 : Nat) (l3 : Int64) (s0 : Int32) (s1 : Nat) : Option (Int32 × pz_H) :=
  (pz_sV f s1 6 4 (.int s0)).bind fun f1 =>
  fX5_firstCrossing_46 pz_F f1 l0 l1 l2 l3 ((0 : Int64)) ((0 : Int32))
theorem tX5_firstCrossing_37 {G : pz_G} {C : pz_C} {f : pz_H} {l0 : Nat} {l1 : Nat} {l2 : Nat} {l3 : Int64} {s0 : Int32} {s1 : Nat} {r : (Int32 × pz_H)} (hC : pz_OK G C cX5_firstCrossing 8 RX5) (hK : pz_K C (some .int) 4 105 0 0) (hf : fX5_firstCrossing_37 f l0 l1 l2 l3 s0 s1 = some r) : pz_W G C 8 37 [(0, .ref l0), (1, .ref l1), (2, .ref l2), (3, .long l3)] [.int s0, .ref s1] f 0 0 (pz_Q G C (some (.int r.1)) r.2 0 0) := by
  unfold fX5_firstCrossing_37 at hf
  refine pz_putV hC dX5_firstCrossing_37 fp_X5_75 rfl rfl hf (fun f1 hf => ?_)
  refine pz_lconst (v := 0) hC dX5_firstCrossing_40 (by decide) ?_
  refine pz_lstore hC dX5_firstCrossing_41 (by decide) rfl ?_
  refine pz_iconst (v := (0 : Int32)) hC dX5_firstCrossing_43 (by decide) ?_
  refine pz_istore hC dX5_firstCrossing_44 (by decide) rfl ?_
  refine pz_sub [2, 3, 4, 5, 1, 0] rfl ?_
  exact tX5_firstCrossing_46 hC hK _ _ _ _ _ _ _ _ hf
def fnX5_firstCrossing (f : pz_H) (a0 : Nat) (p1 : Nat) (p2 : Nat) : Option (Int32 × pz_H) :=
  (pz_is f a0 4).bind fun _ =>
  (fnX5_ownOf f a0 p1 p2).bind fun x1 =>
  (fnX5_fillWholes x1.2 a0 p1).bind fun x2 =>
  (pz_gR x2 a0 4 5).bind fun v3 =>
  (fnX7_copyFrom x2 v3 p2).bind fun x4 =>
  (pz_gR x4 a0 4 5).bind fun v5 =>
  (pz_gI x4 p2 6 4).bind fun v6 =>
  if v6 = (1 : Int32) then fX5_firstCrossing_37 x4 a0 p1 p2 x1.1 ((0 : Int32)) v5 else
  fX5_firstCrossing_37 x4 a0 p1 p2 x1.1 ((1 : Int32)) v5
theorem mX5_firstCrossing {l : Launch} {G : pz_G} {f : pz_H} {a0 : Nat} {p1 : Nat} {p2 : Nat} {r : (Int32 × pz_H)} (hf : fnX5_firstCrossing f a0 p1 p2 = some r) : pz_Met l G yX5_firstCrossing cX5_firstCrossing 8 (some .int) 4 105 0 0 [.ref a0, .ref p1, .ref p2] f (some (.int r.1)) r.2 ∧ pz_is f a0 4 = some () := by
  unfold fnX5_firstCrossing at hf
  obtain ⟨_, h0, hf⟩ := pz_bd hf
  refine ⟨pz_enter (by decide +kernel) (Nat.le_of_ble_eq_true rfl) (fun C hl hC hK hnm => ?_), h0⟩
  subst hl
  refine pz_sub (lv' := [(0, .ref a0), (1, .ref p1), (2, .ref p2)]) [0, 1, 2] rfl ?_
  refine pz_aload_n hC dX5_firstCrossing_0 0 rfl ?_
  refine pz_aload_n hC dX5_firstCrossing_1 1 rfl ?_
  refine pz_aload_n hC dX5_firstCrossing_2 2 rfl ?_
  refine pz_Vlw (As := [.ref p1, .ref p2]) hC hK dX5_firstCrossing_3 py_X5_ownOf pv_X5_ownOf lk_X5_78 hf (fun _ h => mX5_ownOf h) rfl rfl (Nat.le_of_ble_eq_true rfl) ⟨by decide, by decide⟩ ⟨Nat.le_of_ble_eq_true rfl, Nat.le_of_ble_eq_true rfl⟩ (fun x1 hf => ?_)
  refine pz_lstore_n hC dX5_firstCrossing_6 (by decide) rfl ?_
  refine pz_aload_n hC dX5_firstCrossing_7 1 rfl ?_
  refine pz_aload_n hC dX5_firstCrossing_8 2 rfl ?_
  refine pz_Vv (As := [.ref p1]) hC hK dX5_firstCrossing_9 py_X5_fillWholes pv_X5_fillWholes lk_X5_64 hf (fun _ h => mX5_fillWholes h) rfl rfl (Nat.le_of_ble_eq_true rfl) ⟨by decide, by decide⟩ ⟨Nat.le_of_ble_eq_true rfl, Nat.le_of_ble_eq_true rfl⟩ (fun x2 hf => ?_)
  refine pz_aload_n hC dX5_firstCrossing_12 1 rfl ?_
  refine pz_getR hC dX5_firstCrossing_13 fa_X5_31 hf (fun v3 hf => ?_)
  refine pz_aload_n hC dX5_firstCrossing_16 3 rfl ?_
  refine pz_Vv (As := [.ref p2]) hC hK dX5_firstCrossing_17 py_X7_copyFrom pv_X7_copyFrom lk_X5_123 hf (fun _ h => mX7_copyFrom h) rfl rfl (Nat.le_of_ble_eq_true rfl) ⟨by decide, by decide⟩ ⟨Nat.le_of_ble_eq_true rfl, Nat.le_of_ble_eq_true rfl⟩ (fun x4 hf => ?_)
  refine pz_aload_n hC dX5_firstCrossing_20 1 rfl ?_
  refine pz_getR hC dX5_firstCrossing_21 fa_X5_31 hf (fun v5 hf => ?_)
  refine pz_aload_n hC dX5_firstCrossing_24 3 rfl ?_
  refine pz_getI hC dX5_firstCrossing_25 fa_X5_75 hf (fun v6 hf => ?_)
  refine pz_iconst (v := (1 : Int32)) hC dX5_firstCrossing_28 (by decide) ?_
  refine pz_icmp_ne hC dX5_firstCrossing_29 hf (fun _ hf => ?_) (fun _ hf => ?_)
  · refine pz_iconst (v := (1 : Int32)) hC dX5_firstCrossing_36 (by decide) ?_
    refine pz_sub [1, 2, 3, 0] rfl ?_
    exact tX5_firstCrossing_37 hC hK hf
  · refine pz_iconst (v := (0 : Int32)) hC dX5_firstCrossing_32 (by decide) ?_
    refine pz_goto hC dX5_firstCrossing_33 ?_
    refine pz_sub [1, 2, 3, 0] rfl ?_
    exact tX5_firstCrossing_37 hC hK hf
def fX5_worthOfAll_35b (k35 : pz_H → Nat → Int32 → Int64 → Int32 → Option (Int64 × pz_H)) (f : pz_H) (l0 : Nat) (l2 : Int32) (l3 : Int64) (l5 : Int32) : Option (Int64 × pz_H) :=
  if (1800 : Int32) ≤ l5 then some (l3, f) else
  (pz_gR f l0 4 1).bind fun v1 =>
  (pz_aI f v1 0 ((l5 - l2))).bind fun v2 =>
  (pz_gR f l0 4 0).bind fun v3 =>
  (pz_aI f v3 0 l5).bind fun v4 =>
  (pz_gR f l0 4 2).bind fun v5 =>
  (pz_aI f v5 0 l5).bind fun v6 =>
  k35 f l0 l2 ((l3 + ((v2.toInt64 * ((v4.toInt64 * v6.toInt64) / (1000000000 : Int64))) / (1000000000 : Int64)))) ((l5 + 1))
theorem tX5_worthOfAll_35b {G : pz_G} {C : pz_C} {f : pz_H} {k35 : pz_H → Nat → Int32 → Int64 → Int32 → Option (Int64 × pz_H)} {l0 : Nat} {l2 : Int32} {l3 : Int64} {l5 : Int32} {r : (Int64 × pz_H)} (hC : pz_OK G C cX5_worthOfAll 6 RX5) (hK : pz_K C (some .long) 4 92 0 0) (hk35 : ∀ (g : pz_H) (a0 : Nat) (a2 : Int32) (a3 : Int64) (a5 : Int32), k35 g a0 a2 a3 a5 = some r → pz_W G C 6 35 [(0, .ref a0), (2, .int a2), (3, .long a3), (5, .int a5)] [] g 0 0 (pz_Q G C (some (.long r.1)) r.2 0 0)) (hf : fX5_worthOfAll_35b k35 f l0 l2 l3 l5 = some r) : pz_W G C 6 35 [(0, .ref l0), (2, .int l2), (3, .long l3), (5, .int l5)] [] f 0 0 (pz_Q G C (some (.long r.1)) r.2 0 0) := by
  unfold fX5_worthOfAll_35b at hf
  refine pz_iload hC dX5_worthOfAll_35 3 rfl ?_
  refine pz_sipush (v := (1800 : Int32)) hC dX5_worthOfAll_37 (by decide) ?_
  refine pz_icmp_ge hC dX5_worthOfAll_40 hf (fun _ hf => ?_) (fun _ hf => ?_)
  · refine pz_lload_n hC dX5_worthOfAll_88 2 rfl ?_
    exact pz_lretw hC hK dX5_worthOfAll_89 hf
  · refine pz_lload_n hC dX5_worthOfAll_43 2 rfl ?_
    refine pz_aload_n hC dX5_worthOfAll_44 0 rfl ?_
    refine pz_getR hC dX5_worthOfAll_45 fa_X5_15 hf (fun v1 hf => ?_)
    refine pz_iload hC dX5_worthOfAll_48 3 rfl ?_
    refine pz_iload_n hC dX5_worthOfAll_50 1 rfl ?_
    refine pz_isub hC dX5_worthOfAll_51 ?_
    refine pz_iald hC dX5_worthOfAll_52 hf (fun v2 hf => ?_)
    refine pz_i2l hC dX5_worthOfAll_53 ?_
    refine pz_aload_n hC dX5_worthOfAll_54 0 rfl ?_
    refine pz_getR hC dX5_worthOfAll_55 fa_X5_9 hf (fun v3 hf => ?_)
    refine pz_iload hC dX5_worthOfAll_58 3 rfl ?_
    refine pz_iald hC dX5_worthOfAll_60 hf (fun v4 hf => ?_)
    refine pz_i2l hC dX5_worthOfAll_61 ?_
    refine pz_aload_n hC dX5_worthOfAll_62 0 rfl ?_
    refine pz_getR hC dX5_worthOfAll_63 fa_X5_18 hf (fun v5 hf => ?_)
    refine pz_iload hC dX5_worthOfAll_66 3 rfl ?_
    refine pz_iald hC dX5_worthOfAll_68 hf (fun v6 hf => ?_)
    refine pz_i2l hC dX5_worthOfAll_69 ?_
    refine pz_lmul hC dX5_worthOfAll_70 ?_
    refine pz_ldc2 hC dX5_worthOfAll_71 ck_X5_50 ?_
    refine pz_ldivc hC dX5_worthOfAll_74 (by decide) ?_
    refine pz_lmul hC dX5_worthOfAll_75 ?_
    refine pz_ldc2 hC dX5_worthOfAll_76 ck_X5_50 ?_
    refine pz_ldivc hC dX5_worthOfAll_79 (by decide) ?_
    refine pz_ladd hC dX5_worthOfAll_80 ?_
    refine pz_lstore_n hC dX5_worthOfAll_81 (by decide) rfl ?_
    refine pz_iinc (v := (l5 + 1)) hC dX5_worthOfAll_82 3 rfl rfl (by decide) rfl ?_
    refine pz_goto hC dX5_worthOfAll_85 ?_
    refine pz_sub [2, 3, 1, 0] rfl ?_
    exact hk35 _ _ _ _ _ hf
def fX5_worthOfAll_35 : Nat → pz_H → Nat → Int32 → Int64 → Int32 → Option (Int64 × pz_H)
  | 0, _, _, _, _, _ => none
  | n + 1, f, l0, l2, l3, l5 => fX5_worthOfAll_35b (fX5_worthOfAll_35 n) f l0 l2 l3 l5
theorem tX5_worthOfAll_35 {G : pz_G} {C : pz_C} {r : (Int64 × pz_H)} (hC : pz_OK G C cX5_worthOfAll 6 RX5) (hK : pz_K C (some .long) 4 92 0 0) : ∀ (N : Nat) (f : pz_H) (l0 : Nat) (l2 : Int32) (l3 : Int64) (l5 : Int32), fX5_worthOfAll_35 N f l0 l2 l3 l5 = some r → pz_W G C 6 35 [(0, .ref l0), (2, .int l2), (3, .long l3), (5, .int l5)] [] f 0 0 (pz_Q G C (some (.long r.1)) r.2 0 0) := by
  intro N
  induction N with
  | zero => intro f l0 l2 l3 l5 hf; cases hf
  | succ N ih => intro f l0 l2 l3 l5 hf; exact tX5_worthOfAll_35b hC hK (fun f l0 l2 l3 l5 hf => ih f l0 l2 l3 l5 hf) hf
def fnX5_worthOfAll (f : pz_H) (a0 : Nat) (p1 : Nat) (p2 : Int32) : Option (Int64 × pz_H) :=
  (pz_is f a0 4).bind fun _ =>
  (fnX5_fillWholes f a0 p1).bind fun x1 =>
  (fnX5_fillDiscounts x1 a0 p1).bind fun x2 =>
  (pz_gI x2 p1 2 0).bind fun v3 =>
  (pz_gR x2 a0 4 2).bind fun v4 =>
  (fnX5_fillOdds x2 p1 v3 p2 v4).bind fun x5 =>
  (pz_gI x5 p1 2 1).bind fun v6 =>
  fX5_worthOfAll_35 pz_F x5 a0 p2 ((0 : Int64)) ((if v6 < p2 then p2 else v6))
theorem mX5_worthOfAll {l : Launch} {G : pz_G} {f : pz_H} {a0 : Nat} {p1 : Nat} {p2 : Int32} {r : (Int64 × pz_H)} (hf : fnX5_worthOfAll f a0 p1 p2 = some r) : pz_Met l G yX5_worthOfAll cX5_worthOfAll 6 (some .long) 4 92 0 0 [.ref a0, .ref p1, .int p2] f (some (.long r.1)) r.2 ∧ pz_is f a0 4 = some () := by
  unfold fnX5_worthOfAll at hf
  obtain ⟨_, h0, hf⟩ := pz_bd hf
  refine ⟨pz_enter (by decide +kernel) (Nat.le_of_ble_eq_true rfl) (fun C hl hC hK hnm => ?_), h0⟩
  subst hl
  refine pz_sub (lv' := [(0, .ref a0), (1, .ref p1), (2, .int p2)]) [0, 1, 2] rfl ?_
  refine pz_aload_n hC dX5_worthOfAll_0 0 rfl ?_
  refine pz_aload_n hC dX5_worthOfAll_1 1 rfl ?_
  refine pz_Vv (As := [.ref p1]) hC hK dX5_worthOfAll_2 py_X5_fillWholes pv_X5_fillWholes lk_X5_64 hf (fun _ h => mX5_fillWholes h) rfl rfl (Nat.le_of_ble_eq_true rfl) ⟨by decide, by decide⟩ ⟨Nat.le_of_ble_eq_true rfl, Nat.le_of_ble_eq_true rfl⟩ (fun x1 hf => ?_)
  refine pz_aload_n hC dX5_worthOfAll_5 0 rfl ?_
  refine pz_aload_n hC dX5_worthOfAll_6 1 rfl ?_
  refine pz_Vv (As := [.ref p1]) hC hK dX5_worthOfAll_7 py_X5_fillDiscounts pv_X5_fillDiscounts lk_X5_127 hf (fun _ h => mX5_fillDiscounts h) rfl rfl (Nat.le_of_ble_eq_true rfl) ⟨by decide, by decide⟩ ⟨Nat.le_of_ble_eq_true rfl, Nat.le_of_ble_eq_true rfl⟩ (fun x2 hf => ?_)
  refine pz_aload_n hC dX5_worthOfAll_10 1 rfl ?_
  refine pz_aload_n hC dX5_worthOfAll_11 1 rfl ?_
  refine pz_getI hC dX5_worthOfAll_12 fa_X5_138 hf (fun v3 hf => ?_)
  refine pz_iload_n hC dX5_worthOfAll_15 2 rfl ?_
  refine pz_aload_n hC dX5_worthOfAll_16 0 rfl ?_
  refine pz_getR hC dX5_worthOfAll_17 fa_X5_18 hf (fun v4 hf => ?_)
  refine pz_Sv (As := [.ref p1, .int v3, .int p2, .ref v4]) hC hK dX5_worthOfAll_20 py_X5_fillOdds ps_X5_fillOdds lk_X5_130 hf (fun _ h => mX5_fillOdds h) rfl rfl (Nat.le_of_ble_eq_true rfl) ⟨by decide, by decide⟩ ⟨by decide, by decide⟩ (fun x5 hf => ?_)
  refine pz_lconst (v := 0) hC dX5_worthOfAll_23 (by decide) ?_
  refine pz_lstore_n hC dX5_worthOfAll_24 (by decide) rfl ?_
  refine pz_aload_n hC dX5_worthOfAll_25 2 rfl ?_
  refine pz_getI hC dX5_worthOfAll_26 fa_X5_35 hf (fun v6 hf => ?_)
  refine pz_iload_n hC dX5_worthOfAll_29 3 rfl ?_
  refine pz_mmax hC hK dX5_worthOfAll_30 mk_X5_156 ms_max mi_math mc_max (by decide) (Nat.le_of_ble_eq_true rfl) ⟨by decide, by decide⟩ ?_
  refine pz_istore hC dX5_worthOfAll_33 (by decide) rfl ?_
  refine pz_sub [2, 4, 1, 0] rfl ?_
  exact tX5_worthOfAll_35 hC hK _ _ _ _ _ _ hf
def fX5_worthApart_7b (k7 : Nat → Int64 → Int32 → Int64 → Int32 → Option Int64) (f : pz_H) (l0 : Nat) (l1 : Int64) (l3 : Int32) (l5 : Int64) (l7 : Int32) : Option Int64 :=
  if (1800 : Int32) ≤ l7 then some l5 else
  (pz_gR f l0 4 1).bind fun v1 =>
  (pz_aI f v1 0 ((l7 - l3))).bind fun v2 =>
  (pz_gR f l0 4 3).bind fun v3 =>
  (pz_aI f v3 0 l7).bind fun v4 =>
  k7 l0 l1 l3 ((l5 + ((v2.toInt64 * ((l1 * v4.toInt64) / (1000000000 : Int64))) / (1000000000 : Int64)))) ((l7 + 1))
theorem tX5_worthApart_7b {G : pz_G} {C : pz_C} {f : pz_H} {k7 : Nat → Int64 → Int32 → Int64 → Int32 → Option Int64} {l0 : Nat} {l1 : Int64} {l3 : Int32} {l5 : Int64} {l7 : Int32} {r : Int64} (hC : pz_OK G C cX5_worthApart 8 RX5) (hK : pz_K C (some .long) 0 0 0 0) (hk7 : ∀ (a0 : Nat) (a1 : Int64) (a3 : Int32) (a5 : Int64) (a7 : Int32), k7 a0 a1 a3 a5 a7 = some r → pz_W G C 8 7 [(0, .ref a0), (1, .long a1), (3, .int a3), (5, .long a5), (7, .int a7)] [] f 0 0 (pz_Q G C (some (.long r)) f 0 0)) (hf : fX5_worthApart_7b k7 f l0 l1 l3 l5 l7 = some r) : pz_W G C 8 7 [(0, .ref l0), (1, .long l1), (3, .int l3), (5, .long l5), (7, .int l7)] [] f 0 0 (pz_Q G C (some (.long r)) f 0 0) := by
  unfold fX5_worthApart_7b at hf
  refine pz_iload hC dX5_worthApart_7 4 rfl ?_
  refine pz_sipush (v := (1800 : Int32)) hC dX5_worthApart_9 (by decide) ?_
  refine pz_icmp_ge hC dX5_worthApart_12 hf (fun _ hf => ?_) (fun _ hf => ?_)
  · refine pz_lload hC dX5_worthApart_55 3 rfl ?_
    exact pz_lret hC hK dX5_worthApart_57 hf
  · refine pz_lload hC dX5_worthApart_15 3 rfl ?_
    refine pz_aload_n hC dX5_worthApart_17 0 rfl ?_
    refine pz_getR hC dX5_worthApart_18 fa_X5_15 hf (fun v1 hf => ?_)
    refine pz_iload hC dX5_worthApart_21 4 rfl ?_
    refine pz_iload_n hC dX5_worthApart_23 2 rfl ?_
    refine pz_isub hC dX5_worthApart_24 ?_
    refine pz_iald hC dX5_worthApart_25 hf (fun v2 hf => ?_)
    refine pz_i2l hC dX5_worthApart_26 ?_
    refine pz_lload_n hC dX5_worthApart_27 1 rfl ?_
    refine pz_aload_n hC dX5_worthApart_28 0 rfl ?_
    refine pz_getR hC dX5_worthApart_29 fa_X5_21 hf (fun v3 hf => ?_)
    refine pz_iload hC dX5_worthApart_32 4 rfl ?_
    refine pz_iald hC dX5_worthApart_34 hf (fun v4 hf => ?_)
    refine pz_i2l hC dX5_worthApart_35 ?_
    refine pz_lmul hC dX5_worthApart_36 ?_
    refine pz_ldc2 hC dX5_worthApart_37 ck_X5_50 ?_
    refine pz_ldivc hC dX5_worthApart_40 (by decide) ?_
    refine pz_lmul hC dX5_worthApart_41 ?_
    refine pz_ldc2 hC dX5_worthApart_42 ck_X5_50 ?_
    refine pz_ldivc hC dX5_worthApart_45 (by decide) ?_
    refine pz_ladd hC dX5_worthApart_46 ?_
    refine pz_lstore hC dX5_worthApart_47 (by decide) rfl ?_
    refine pz_iinc (v := (l7 + 1)) hC dX5_worthApart_49 4 rfl rfl (by decide) rfl ?_
    refine pz_goto hC dX5_worthApart_52 ?_
    refine pz_sub [2, 3, 4, 1, 0] rfl ?_
    exact hk7 _ _ _ _ _ hf
def fX5_worthApart_7 (f : pz_H) : Nat → Nat → Int64 → Int32 → Int64 → Int32 → Option Int64
  | 0, _, _, _, _, _ => none
  | n + 1, l0, l1, l3, l5, l7 => fX5_worthApart_7b (fX5_worthApart_7 f n) f l0 l1 l3 l5 l7
theorem tX5_worthApart_7 {G : pz_G} {C : pz_C} {f : pz_H} {r : Int64} (hC : pz_OK G C cX5_worthApart 8 RX5) (hK : pz_K C (some .long) 0 0 0 0) : ∀ (N : Nat) (l0 : Nat) (l1 : Int64) (l3 : Int32) (l5 : Int64) (l7 : Int32), fX5_worthApart_7 f N l0 l1 l3 l5 l7 = some r → pz_W G C 8 7 [(0, .ref l0), (1, .long l1), (3, .int l3), (5, .long l5), (7, .int l7)] [] f 0 0 (pz_Q G C (some (.long r)) f 0 0) := by
  intro N
  induction N with
  | zero => intro l0 l1 l3 l5 l7 hf; cases hf
  | succ N ih => intro l0 l1 l3 l5 l7 hf; exact tX5_worthApart_7b hC hK (fun l0 l1 l3 l5 l7 hf => ih l0 l1 l3 l5 l7 hf) hf
def fnX5_worthApart (f : pz_H) (a0 : Nat) (p1 : Int64) (p3 : Int32) (p4 : Int32) : Option Int64 :=
  (pz_is f a0 4).bind fun _ =>
  fX5_worthApart_7 f pz_F a0 p1 p3 ((0 : Int64)) p4
theorem mX5_worthApart {l : Launch} {G : pz_G} {f : pz_H} {a0 : Nat} {p1 : Int64} {p3 : Int32} {p4 : Int32} {r : Int64} (hf : fnX5_worthApart f a0 p1 p3 p4 = some r) : pz_Met l G yX5_worthApart cX5_worthApart 8 (some .long) 0 0 0 0 [.ref a0, .long p1, .int p3, .int p4] f (some (.long r)) f ∧ pz_is f a0 4 = some () := by
  unfold fnX5_worthApart at hf
  obtain ⟨_, h0, hf⟩ := pz_bd hf
  refine ⟨pz_enter (by decide +kernel) (Nat.le_of_ble_eq_true rfl) (fun C hl hC hK hnm => ?_), h0⟩
  subst hl
  refine pz_sub (lv' := [(0, .ref a0), (1, .long p1), (3, .int p3), (4, .int p4)]) [0, 1, 2, 3] rfl ?_
  refine pz_lconst (v := 0) hC dX5_worthApart_0 (by decide) ?_
  refine pz_lstore hC dX5_worthApart_1 (by decide) rfl ?_
  refine pz_iload hC dX5_worthApart_3 4 rfl ?_
  refine pz_istore hC dX5_worthApart_5 (by decide) rfl ?_
  refine pz_sub [2, 3, 4, 1, 0] rfl ?_
  exact tX5_worthApart_7 hC hK _ _ _ _ _ _ hf
def fX5_worthShared_7b (k7 : Nat → Nat → Nat → Int32 → Int64 → Int32 → Option Int64) (f : pz_H) (l0 : Nat) (l1 : Nat) (l2 : Nat) (l3 : Int32) (l5 : Int64) (l7 : Int32) : Option Int64 :=
  if (1800 : Int32) ≤ l7 then some l5 else
  (pz_gR f l0 4 0).bind fun v1 =>
  (pz_aI f v1 0 l7).bind fun v2 =>
  (fnX3_shareOf f l1 l2 v2).bind fun x3 =>
  (pz_gI f l2 6 5).bind fun v4 =>
  (pz_gR f l0 4 2).bind fun v5 =>
  (pz_aI f v5 0 l7).bind fun v6 =>
  (pz_gR f l0 4 3).bind fun v7 =>
  (pz_aI f v7 0 l7).bind fun v8 =>
  (pz_gR f l0 4 3).bind fun v9 =>
  (pz_aI f v9 0 l7).bind fun v10 =>
  (pz_gR f l0 4 1).bind fun v11 =>
  (pz_aI f v11 0 ((l7 - l3))).bind fun v12 =>
  k7 l0 l1 l2 l3 ((l5 + ((v12.toInt64 * (((x3 * ((v6.toInt64 * v8.toInt64) / (1000000000 : Int64))) + (((x3 * v4.toInt64) / (1000 : Int64)) * (v10.toInt64 - ((v6.toInt64 * v8.toInt64) / (1000000000 : Int64))))) / (1000000000 : Int64))) / (1000000000 : Int64)))) ((l7 + 1))
theorem tX5_worthShared_7b {G : pz_G} {C : pz_C} {f : pz_H} {k7 : Nat → Nat → Nat → Int32 → Int64 → Int32 → Option Int64} {l0 : Nat} {l1 : Nat} {l2 : Nat} {l3 : Int32} {l5 : Int64} {l7 : Int32} {r : Int64} (hC : pz_OK G C cX5_worthShared 16 RX5) (hK : pz_K C (some .long) 1 22 0 0) (hk7 : ∀ (a0 : Nat) (a1 : Nat) (a2 : Nat) (a3 : Int32) (a5 : Int64) (a7 : Int32), k7 a0 a1 a2 a3 a5 a7 = some r → pz_W G C 16 7 [(0, .ref a0), (1, .ref a1), (2, .ref a2), (3, .int a3), (5, .long a5), (7, .int a7)] [] f 0 0 (pz_Q G C (some (.long r)) f 0 0)) (hf : fX5_worthShared_7b k7 f l0 l1 l2 l3 l5 l7 = some r) : pz_W G C 16 7 [(0, .ref l0), (1, .ref l1), (2, .ref l2), (3, .int l3), (5, .long l5), (7, .int l7)] [] f 0 0 (pz_Q G C (some (.long r)) f 0 0) := by
  unfold fX5_worthShared_7b at hf
  refine pz_iload hC dX5_worthShared_7 5 rfl ?_
  refine pz_sipush (v := (1800 : Int32)) hC dX5_worthShared_9 (by decide) ?_
  refine pz_icmp_ge hC dX5_worthShared_12 hf (fun _ hf => ?_) (fun _ hf => ?_)
  · refine pz_lload hC dX5_worthShared_120 4 rfl ?_
    exact pz_lret hC hK dX5_worthShared_122 hf
  · refine pz_aload_n hC dX5_worthShared_15 1 rfl ?_
    refine pz_aload_n hC dX5_worthShared_16 2 rfl ?_
    refine pz_aload_n hC dX5_worthShared_17 0 rfl ?_
    refine pz_getR hC dX5_worthShared_18 fa_X5_9 hf (fun v1 hf => ?_)
    refine pz_iload hC dX5_worthShared_21 5 rfl ?_
    refine pz_iald hC dX5_worthShared_23 hf (fun v2 hf => ?_)
    refine pz_Vl (As := [.ref l2, .int v2]) hC hK dX5_worthShared_24 py_X3_shareOf pv_X3_shareOf lk_X5_115 hf (fun _ h => mX3_shareOf h) rfl rfl (Nat.le_of_ble_eq_true rfl) ⟨by decide, by decide⟩ ⟨Nat.le_of_ble_eq_true rfl, Nat.le_of_ble_eq_true rfl⟩ (fun x3 hf => ?_)
    refine pz_lstore hC dX5_worthShared_27 (by decide) rfl ?_
    refine pz_lload hC dX5_worthShared_29 0 rfl ?_
    refine pz_aload_n hC dX5_worthShared_31 3 rfl ?_
    refine pz_getI hC dX5_worthShared_32 fa_X5_120 hf (fun v4 hf => ?_)
    refine pz_i2l hC dX5_worthShared_35 ?_
    refine pz_lmul hC dX5_worthShared_36 ?_
    refine pz_ldc2 hC dX5_worthShared_37 ck_X5_48 ?_
    refine pz_ldivc hC dX5_worthShared_40 (by decide) ?_
    refine pz_lstore hC dX5_worthShared_41 (by decide) rfl ?_
    refine pz_aload_n hC dX5_worthShared_43 2 rfl ?_
    refine pz_getR hC dX5_worthShared_44 fa_X5_18 hf (fun v5 hf => ?_)
    refine pz_iload hC dX5_worthShared_47 7 rfl ?_
    refine pz_iald hC dX5_worthShared_49 hf (fun v6 hf => ?_)
    refine pz_i2l hC dX5_worthShared_50 ?_
    refine pz_aload_n hC dX5_worthShared_51 2 rfl ?_
    refine pz_getR hC dX5_worthShared_52 fa_X5_21 hf (fun v7 hf => ?_)
    refine pz_iload hC dX5_worthShared_55 7 rfl ?_
    refine pz_iald hC dX5_worthShared_57 hf (fun v8 hf => ?_)
    refine pz_i2l hC dX5_worthShared_58 ?_
    refine pz_lmul hC dX5_worthShared_59 ?_
    refine pz_ldc2 hC dX5_worthShared_60 ck_X5_50 ?_
    refine pz_ldivc hC dX5_worthShared_63 (by decide) ?_
    refine pz_lstore hC dX5_worthShared_64 (by decide) rfl ?_
    refine pz_lload hC dX5_worthShared_66 2 rfl ?_
    refine pz_lload hC dX5_worthShared_68 0 rfl ?_
    refine pz_lmul hC dX5_worthShared_70 ?_
    refine pz_lload hC dX5_worthShared_71 1 rfl ?_
    refine pz_aload_n hC dX5_worthShared_73 3 rfl ?_
    refine pz_getR hC dX5_worthShared_74 fa_X5_21 hf (fun v9 hf => ?_)
    refine pz_iload hC dX5_worthShared_77 8 rfl ?_
    refine pz_iald hC dX5_worthShared_79 hf (fun v10 hf => ?_)
    refine pz_i2l hC dX5_worthShared_80 ?_
    refine pz_lload hC dX5_worthShared_81 0 rfl ?_
    refine pz_lsub hC dX5_worthShared_83 ?_
    refine pz_lmul hC dX5_worthShared_84 ?_
    refine pz_ladd hC dX5_worthShared_85 ?_
    refine pz_ldc2 hC dX5_worthShared_86 ck_X5_50 ?_
    refine pz_ldivc hC dX5_worthShared_89 (by decide) ?_
    refine pz_lstore hC dX5_worthShared_90 (by decide) rfl ?_
    refine pz_lload hC dX5_worthShared_92 8 rfl ?_
    refine pz_aload_n hC dX5_worthShared_94 4 rfl ?_
    refine pz_getR hC dX5_worthShared_95 fa_X5_15 hf (fun v11 hf => ?_)
    refine pz_iload hC dX5_worthShared_98 9 rfl ?_
    refine pz_iload_n hC dX5_worthShared_100 7 rfl ?_
    refine pz_isub hC dX5_worthShared_101 ?_
    refine pz_iald hC dX5_worthShared_102 hf (fun v12 hf => ?_)
    refine pz_i2l hC dX5_worthShared_103 ?_
    refine pz_lload hC dX5_worthShared_104 0 rfl ?_
    refine pz_lmul hC dX5_worthShared_106 ?_
    refine pz_ldc2 hC dX5_worthShared_107 ck_X5_50 ?_
    refine pz_ldivc hC dX5_worthShared_110 (by decide) ?_
    refine pz_ladd hC dX5_worthShared_111 ?_
    refine pz_lstore hC dX5_worthShared_112 (by decide) rfl ?_
    refine pz_iinc (v := (l7 + 1)) hC dX5_worthShared_114 9 rfl rfl (by decide) rfl ?_
    refine pz_goto hC dX5_worthShared_117 ?_
    refine pz_sub [6, 7, 8, 9, 1, 0] rfl ?_
    exact hk7 _ _ _ _ _ _ hf
def fX5_worthShared_7 (f : pz_H) : Nat → Nat → Nat → Nat → Int32 → Int64 → Int32 → Option Int64
  | 0, _, _, _, _, _, _ => none
  | n + 1, l0, l1, l2, l3, l5, l7 => fX5_worthShared_7b (fX5_worthShared_7 f n) f l0 l1 l2 l3 l5 l7
theorem tX5_worthShared_7 {G : pz_G} {C : pz_C} {f : pz_H} {r : Int64} (hC : pz_OK G C cX5_worthShared 16 RX5) (hK : pz_K C (some .long) 1 22 0 0) : ∀ (N : Nat) (l0 : Nat) (l1 : Nat) (l2 : Nat) (l3 : Int32) (l5 : Int64) (l7 : Int32), fX5_worthShared_7 f N l0 l1 l2 l3 l5 l7 = some r → pz_W G C 16 7 [(0, .ref l0), (1, .ref l1), (2, .ref l2), (3, .int l3), (5, .long l5), (7, .int l7)] [] f 0 0 (pz_Q G C (some (.long r)) f 0 0) := by
  intro N
  induction N with
  | zero => intro l0 l1 l2 l3 l5 l7 hf; cases hf
  | succ N ih => intro l0 l1 l2 l3 l5 l7 hf; exact tX5_worthShared_7b hC hK (fun l0 l1 l2 l3 l5 l7 hf => ih l0 l1 l2 l3 l5 l7 hf) hf
def fnX5_worthShared (f : pz_H) (a0 : Nat) (p1 : Nat) (p2 : Nat) (p3 : Int32) (p4 : Int32) : Option Int64 :=
  (pz_is f a0 4).bind fun _ =>
  fX5_worthShared_7 f pz_F a0 p1 p2 p3 ((0 : Int64)) p4
theorem mX5_worthShared {l : Launch} {G : pz_G} {f : pz_H} {a0 : Nat} {p1 : Nat} {p2 : Nat} {p3 : Int32} {p4 : Int32} {r : Int64} (hf : fnX5_worthShared f a0 p1 p2 p3 p4 = some r) : pz_Met l G yX5_worthShared cX5_worthShared 16 (some .long) 1 22 0 0 [.ref a0, .ref p1, .ref p2, .int p3, .int p4] f (some (.long r)) f ∧ pz_is f a0 4 = some () := by
  unfold fnX5_worthShared at hf
  obtain ⟨_, h0, hf⟩ := pz_bd hf
  refine ⟨pz_enter (by decide +kernel) (Nat.le_of_ble_eq_true rfl) (fun C hl hC hK hnm => ?_), h0⟩
  subst hl
  refine pz_sub (lv' := [(0, .ref a0), (1, .ref p1), (2, .ref p2), (3, .int p3), (4, .int p4)]) [0, 1, 2, 3, 4] rfl ?_
  refine pz_lconst (v := 0) hC dX5_worthShared_0 (by decide) ?_
  refine pz_lstore hC dX5_worthShared_1 (by decide) rfl ?_
  refine pz_iload hC dX5_worthShared_3 5 rfl ?_
  refine pz_istore hC dX5_worthShared_5 (by decide) rfl ?_
  refine pz_sub [2, 3, 4, 5, 1, 0] rfl ?_
  exact tX5_worthShared_7 hC hK _ _ _ _ _ _ _ hf
def fX5_worthOfSpouse_18 (f : pz_H) (l0 : Nat) (l1 : Nat) (l2 : Nat) (l3 : Int32) (s0 : Int64) : Option (Int64 × pz_H) :=
  (fnX3_beginOf f l1 l2).bind fun x1 =>
  (fnX5_fillDiscounts f l0 l1).bind fun x2 =>
  (pz_gI x2 l2 6 0).bind fun v3 =>
  (pz_gR x2 l0 4 3).bind fun v4 =>
  (fnX5_fillOdds x2 l1 v3 l3 v4).bind fun x5 =>
  (pz_gI x5 l2 6 4).bind fun v6 =>
  if v6 = (1 : Int32) then (fnX5_worthApart x5 l0 s0 l3 ((if x1 < l3 then l3 else x1))).bind fun x12 =>
  some (x12, x5) else
  (fnX5_fillWholes x5 l0 l1).bind fun x7 =>
  (pz_gI x7 l1 2 0).bind fun v8 =>
  (pz_gR x7 l0 4 2).bind fun v9 =>
  (fnX5_fillOdds x7 l1 v8 l3 v9).bind fun x10 =>
  (fnX5_worthShared x10 l0 l1 l2 l3 ((if x1 < l3 then l3 else x1))).bind fun x11 =>
  some (x11, x10)
theorem tX5_worthOfSpouse_18 {G : pz_G} {C : pz_C} {f : pz_H} {l0 : Nat} {l1 : Nat} {l2 : Nat} {l3 : Int32} {s0 : Int64} {r : (Int64 × pz_H)} (hC : pz_OK G C cX5_worthOfSpouse 7 RX5) (hK : pz_K C (some .long) 4 105 0 0) (hf : fX5_worthOfSpouse_18 f l0 l1 l2 l3 s0 = some r) : pz_W G C 7 18 [(0, .ref l0), (1, .ref l1), (2, .ref l2), (3, .int l3)] [.long s0] f 0 0 (pz_Q G C (some (.long r.1)) r.2 0 0) := by
  unfold fX5_worthOfSpouse_18 at hf
  refine pz_lstore hC dX5_worthOfSpouse_18 (by decide) rfl ?_
  refine pz_aload_n hC dX5_worthOfSpouse_20 2 rfl ?_
  refine pz_aload_n hC dX5_worthOfSpouse_21 3 rfl ?_
  refine pz_Vi (As := [.ref l2]) hC hK dX5_worthOfSpouse_22 py_X3_beginOf pv_X3_beginOf lk_X5_104 hf (fun _ h => mX3_beginOf h) rfl rfl (Nat.le_of_ble_eq_true rfl) ⟨by decide, by decide⟩ ⟨Nat.le_of_ble_eq_true rfl, Nat.le_of_ble_eq_true rfl⟩ (fun x1 hf => ?_)
  refine pz_iload_n hC dX5_worthOfSpouse_25 4 rfl ?_
  refine pz_mmax hC hK dX5_worthOfSpouse_26 mk_X5_156 ms_max mi_math mc_max (by decide) (Nat.le_of_ble_eq_true rfl) ⟨by decide, by decide⟩ ?_
  refine pz_istore hC dX5_worthOfSpouse_29 (by decide) rfl ?_
  refine pz_aload_n hC dX5_worthOfSpouse_31 2 rfl ?_
  refine pz_aload_n hC dX5_worthOfSpouse_32 3 rfl ?_
  refine pz_Vv (As := [.ref l1]) hC hK dX5_worthOfSpouse_33 py_X5_fillDiscounts pv_X5_fillDiscounts lk_X5_127 hf (fun _ h => mX5_fillDiscounts h) rfl rfl (Nat.le_of_ble_eq_true rfl) ⟨by decide, by decide⟩ ⟨Nat.le_of_ble_eq_true rfl, Nat.le_of_ble_eq_true rfl⟩ (fun x2 hf => ?_)
  refine pz_aload_n hC dX5_worthOfSpouse_36 3 rfl ?_
  refine pz_aload_n hC dX5_worthOfSpouse_37 4 rfl ?_
  refine pz_getI hC dX5_worthOfSpouse_38 fa_X5_141 hf (fun v3 hf => ?_)
  refine pz_iload_n hC dX5_worthOfSpouse_41 5 rfl ?_
  refine pz_aload_n hC dX5_worthOfSpouse_42 2 rfl ?_
  refine pz_getR hC dX5_worthOfSpouse_43 fa_X5_21 hf (fun v4 hf => ?_)
  refine pz_Sv (As := [.ref l1, .int v3, .int l3, .ref v4]) hC hK dX5_worthOfSpouse_46 py_X5_fillOdds ps_X5_fillOdds lk_X5_130 hf (fun _ h => mX5_fillOdds h) rfl rfl (Nat.le_of_ble_eq_true rfl) ⟨by decide, by decide⟩ ⟨by decide, by decide⟩ (fun x5 hf => ?_)
  refine pz_aload_n hC dX5_worthOfSpouse_49 4 rfl ?_
  refine pz_getI hC dX5_worthOfSpouse_50 fa_X5_75 hf (fun v6 hf => ?_)
  refine pz_iconst (v := (1 : Int32)) hC dX5_worthOfSpouse_53 (by decide) ?_
  refine pz_icmp_ne hC dX5_worthOfSpouse_54 hf (fun _ hf => ?_) (fun _ hf => ?_)
  · refine pz_aload_n hC dX5_worthOfSpouse_67 2 rfl ?_
    refine pz_aload_n hC dX5_worthOfSpouse_68 3 rfl ?_
    refine pz_Vv (As := [.ref l1]) hC hK dX5_worthOfSpouse_69 py_X5_fillWholes pv_X5_fillWholes lk_X5_64 hf (fun _ h => mX5_fillWholes h) rfl rfl (Nat.le_of_ble_eq_true rfl) ⟨by decide, by decide⟩ ⟨Nat.le_of_ble_eq_true rfl, Nat.le_of_ble_eq_true rfl⟩ (fun x7 hf => ?_)
    refine pz_aload_n hC dX5_worthOfSpouse_72 3 rfl ?_
    refine pz_aload_n hC dX5_worthOfSpouse_73 3 rfl ?_
    refine pz_getI hC dX5_worthOfSpouse_74 fa_X5_138 hf (fun v8 hf => ?_)
    refine pz_iload_n hC dX5_worthOfSpouse_77 5 rfl ?_
    refine pz_aload_n hC dX5_worthOfSpouse_78 2 rfl ?_
    refine pz_getR hC dX5_worthOfSpouse_79 fa_X5_18 hf (fun v9 hf => ?_)
    refine pz_Sv (As := [.ref l1, .int v8, .int l3, .ref v9]) hC hK dX5_worthOfSpouse_82 py_X5_fillOdds ps_X5_fillOdds lk_X5_130 hf (fun _ h => mX5_fillOdds h) rfl rfl (Nat.le_of_ble_eq_true rfl) ⟨by decide, by decide⟩ ⟨by decide, by decide⟩ (fun x10 hf => ?_)
    refine pz_aload_n hC dX5_worthOfSpouse_85 2 rfl ?_
    refine pz_aload_n hC dX5_worthOfSpouse_86 3 rfl ?_
    refine pz_aload_n hC dX5_worthOfSpouse_87 4 rfl ?_
    refine pz_iload_n hC dX5_worthOfSpouse_88 5 rfl ?_
    refine pz_iload hC dX5_worthOfSpouse_89 0 rfl ?_
    refine pz_Vl (As := [.ref l1, .ref l2, .int l3, .int (if x1 < l3 then l3 else x1)]) hC hK dX5_worthOfSpouse_91 py_X5_worthShared pv_X5_worthShared lk_X5_164 hf (fun _ h => mX5_worthShared h) rfl rfl (Nat.le_of_ble_eq_true rfl) ⟨by decide, by decide⟩ ⟨Nat.le_of_ble_eq_true rfl, Nat.le_of_ble_eq_true rfl⟩ (fun x11 hf => ?_)
    exact pz_lretw hC hK dX5_worthOfSpouse_94 hf
  · refine pz_aload_n hC dX5_worthOfSpouse_57 2 rfl ?_
    refine pz_lload hC dX5_worthOfSpouse_58 1 rfl ?_
    refine pz_iload_n hC dX5_worthOfSpouse_60 5 rfl ?_
    refine pz_iload hC dX5_worthOfSpouse_61 0 rfl ?_
    refine pz_Vl (As := [.long s0, .int l3, .int (if x1 < l3 then l3 else x1)]) hC hK dX5_worthOfSpouse_63 py_X5_worthApart pv_X5_worthApart lk_X5_160 hf (fun _ h => mX5_worthApart h) rfl rfl (Nat.le_of_ble_eq_true rfl) ⟨by decide, by decide⟩ ⟨Nat.le_of_ble_eq_true rfl, Nat.le_of_ble_eq_true rfl⟩ (fun x12 hf => ?_)
    exact pz_lretw hC hK dX5_worthOfSpouse_66 hf
def fnX5_worthOfSpouse (f : pz_H) (a0 : Nat) (p1 : Nat) (p2 : Nat) (p3 : Int32) : Option (Int64 × pz_H) :=
  (pz_is f a0 4).bind fun _ =>
  (pz_gI f p2 6 4).bind fun v1 =>
  if v1 = (1 : Int32) then (fnX5_ownOf f a0 p1 p2).bind fun x2 =>
  fX5_worthOfSpouse_18 x2.2 a0 p1 p2 p3 x2.1 else
  fX5_worthOfSpouse_18 f a0 p1 p2 p3 ((0 : Int64))
theorem mX5_worthOfSpouse {l : Launch} {G : pz_G} {f : pz_H} {a0 : Nat} {p1 : Nat} {p2 : Nat} {p3 : Int32} {r : (Int64 × pz_H)} (hf : fnX5_worthOfSpouse f a0 p1 p2 p3 = some r) : pz_Met l G yX5_worthOfSpouse cX5_worthOfSpouse 7 (some .long) 4 105 0 0 [.ref a0, .ref p1, .ref p2, .int p3] f (some (.long r.1)) r.2 ∧ pz_is f a0 4 = some () := by
  unfold fnX5_worthOfSpouse at hf
  obtain ⟨_, h0, hf⟩ := pz_bd hf
  refine ⟨pz_enter (by decide +kernel) (Nat.le_of_ble_eq_true rfl) (fun C hl hC hK hnm => ?_), h0⟩
  subst hl
  refine pz_sub (lv' := [(0, .ref a0), (1, .ref p1), (2, .ref p2), (3, .int p3)]) [0, 1, 2, 3] rfl ?_
  refine pz_aload_n hC dX5_worthOfSpouse_0 2 rfl ?_
  refine pz_getI hC dX5_worthOfSpouse_1 fa_X5_75 hf (fun v1 hf => ?_)
  refine pz_iconst (v := (1 : Int32)) hC dX5_worthOfSpouse_4 (by decide) ?_
  refine pz_icmp_ne hC dX5_worthOfSpouse_5 hf (fun _ hf => ?_) (fun _ hf => ?_)
  · refine pz_lconst (v := 0) hC dX5_worthOfSpouse_17 (by decide) ?_
    exact tX5_worthOfSpouse_18 hC hK hf
  · refine pz_aload_n hC dX5_worthOfSpouse_8 0 rfl ?_
    refine pz_aload_n hC dX5_worthOfSpouse_9 1 rfl ?_
    refine pz_aload_n hC dX5_worthOfSpouse_10 2 rfl ?_
    refine pz_Vlw (As := [.ref p1, .ref p2]) hC hK dX5_worthOfSpouse_11 py_X5_ownOf pv_X5_ownOf lk_X5_78 hf (fun _ h => mX5_ownOf h) rfl rfl (Nat.le_of_ble_eq_true rfl) ⟨by decide, by decide⟩ ⟨Nat.le_of_ble_eq_true rfl, Nat.le_of_ble_eq_true rfl⟩ (fun x2 hf => ?_)
    refine pz_goto hC dX5_worthOfSpouse_14 ?_
    exact tX5_worthOfSpouse_18 hC hK hf
def fX5_bestClaim_114 (k62 : pz_H → Nat → Int32 → Int64 → Int64 → Int64 → Int32 → Int64 → Int32 → Option (Int32 × pz_H)) (f : pz_H) (l0 : Nat) (l3 : Int32) (l4 : Int64) (l6 : Int64) (l8 : Int64) (l10 : Int32) (l11 : Int64) (l13 : Int32) : Option (Int32 × pz_H) :=
  (fnX5_annuityIn f l0 l3 l13).bind fun x1 =>
  k62 f l0 l3 l4 l6 ((l8 - x1)) l10 l11 ((l13 + 1))
theorem tX5_bestClaim_114 {G : pz_G} {C : pz_C} {f : pz_H} {k62 : pz_H → Nat → Int32 → Int64 → Int64 → Int64 → Int32 → Int64 → Int32 → Option (Int32 × pz_H)} {l0 : Nat} {l3 : Int32} {l4 : Int64} {l6 : Int64} {l8 : Int64} {l10 : Int32} {l11 : Int64} {l13 : Int32} {r : (Int32 × pz_H)} (hC : pz_OK G C cX5_bestClaim 16 RX5) (hK : pz_K C (some .int) 3 79 0 0) (hk62 : ∀ (g : pz_H) (a0 : Nat) (a3 : Int32) (a4 : Int64) (a6 : Int64) (a8 : Int64) (a10 : Int32) (a11 : Int64) (a13 : Int32), k62 g a0 a3 a4 a6 a8 a10 a11 a13 = some r → pz_W G C 16 62 [(0, .ref a0), (3, .int a3), (4, .long a4), (6, .long a6), (8, .long a8), (10, .int a10), (11, .long a11), (13, .int a13)] [] g 0 0 (pz_Q G C (some (.int r.1)) r.2 0 0)) (hf : fX5_bestClaim_114 k62 f l0 l3 l4 l6 l8 l10 l11 l13 = some r) : pz_W G C 16 114 [(0, .ref l0), (3, .int l3), (4, .long l4), (6, .long l6), (8, .long l8), (10, .int l10), (11, .long l11), (13, .int l13)] [] f 0 0 (pz_Q G C (some (.int r.1)) r.2 0 0) := by
  unfold fX5_bestClaim_114 at hf
  refine pz_lload hC dX5_bestClaim_114 4 rfl ?_
  refine pz_aload_n hC dX5_bestClaim_116 0 rfl ?_
  refine pz_iload_n hC dX5_bestClaim_117 1 rfl ?_
  refine pz_iload hC dX5_bestClaim_118 7 rfl ?_
  refine pz_Vl (As := [.int l3, .int l13]) hC hK dX5_bestClaim_120 py_X5_annuityIn pv_X5_annuityIn lk_X5_134 hf (fun _ h => mX5_annuityIn h) rfl rfl (Nat.le_of_ble_eq_true rfl) ⟨by decide, by decide⟩ ⟨Nat.le_of_ble_eq_true rfl, Nat.le_of_ble_eq_true rfl⟩ (fun x1 hf => ?_)
  refine pz_lsub hC dX5_bestClaim_123 ?_
  refine pz_lstore hC dX5_bestClaim_124 (by decide) rfl ?_
  refine pz_iinc (v := (l13 + 1)) hC dX5_bestClaim_126 7 rfl rfl (by decide) rfl ?_
  refine pz_goto hC dX5_bestClaim_129 ?_
  refine pz_sub [2, 3, 4, 5, 1, 6, 7, 0] rfl ?_
  exact hk62 _ _ _ _ _ _ _ _ _ hf
def fX5_bestClaim_132 (f : pz_H) (l10 : Int32) : Option (Int32 × pz_H) :=
  some (l10, f)
theorem tX5_bestClaim_132 {G : pz_G} {C : pz_C} {f : pz_H} {l10 : Int32} {r : (Int32 × pz_H)} (hC : pz_OK G C cX5_bestClaim 16 RX5) (hK : pz_K C (some .int) 3 79 0 0) (hf : fX5_bestClaim_132 f l10 = some r) : pz_W G C 16 132 [(10, .int l10)] [] f 0 0 (pz_Q G C (some (.int r.1)) r.2 0 0) := by
  unfold fX5_bestClaim_132 at hf
  refine pz_iload hC dX5_bestClaim_132 0 rfl ?_
  exact pz_iretw hC hK dX5_bestClaim_134 hf
def fX5_bestClaim_62b (k62 : pz_H → Nat → Int32 → Int64 → Int64 → Int64 → Int32 → Int64 → Int32 → Option (Int32 × pz_H)) (f : pz_H) (l0 : Nat) (l3 : Int32) (l4 : Int64) (l6 : Int64) (l8 : Int64) (l10 : Int32) (l11 : Int64) (l13 : Int32) : Option (Int32 × pz_H) :=
  if (l3 + (240 : Int32)) < l13 then fX5_bestClaim_132 f l10 else
  if (1800 : Int32) ≤ l13 then fX5_bestClaim_132 f l10 else
  (fnX5_ownBy l4 l6 l8).bind fun x1 =>
  (fnX5_worthApart f l0 x1 l3 l13).bind fun x2 =>
  if (lg_cmp x2 l11) ≤ 0 then fX5_bestClaim_114 k62 f l0 l3 l4 l6 l8 l10 l11 l13 else
  fX5_bestClaim_114 k62 f l0 l3 l4 l6 l8 l13 x2 l13
theorem tX5_bestClaim_62b {G : pz_G} {C : pz_C} {f : pz_H} {k62 : pz_H → Nat → Int32 → Int64 → Int64 → Int64 → Int32 → Int64 → Int32 → Option (Int32 × pz_H)} {l0 : Nat} {l3 : Int32} {l4 : Int64} {l6 : Int64} {l8 : Int64} {l10 : Int32} {l11 : Int64} {l13 : Int32} {r : (Int32 × pz_H)} (hC : pz_OK G C cX5_bestClaim 16 RX5) (hK : pz_K C (some .int) 3 79 0 0) (hk62 : ∀ (g : pz_H) (a0 : Nat) (a3 : Int32) (a4 : Int64) (a6 : Int64) (a8 : Int64) (a10 : Int32) (a11 : Int64) (a13 : Int32), k62 g a0 a3 a4 a6 a8 a10 a11 a13 = some r → pz_W G C 16 62 [(0, .ref a0), (3, .int a3), (4, .long a4), (6, .long a6), (8, .long a8), (10, .int a10), (11, .long a11), (13, .int a13)] [] g 0 0 (pz_Q G C (some (.int r.1)) r.2 0 0)) (hf : fX5_bestClaim_62b k62 f l0 l3 l4 l6 l8 l10 l11 l13 = some r) : pz_W G C 16 62 [(0, .ref l0), (3, .int l3), (4, .long l4), (6, .long l6), (8, .long l8), (10, .int l10), (11, .long l11), (13, .int l13)] [] f 0 0 (pz_Q G C (some (.int r.1)) r.2 0 0) := by
  unfold fX5_bestClaim_62b at hf
  refine pz_iload hC dX5_bestClaim_62 7 rfl ?_
  refine pz_iload_n hC dX5_bestClaim_64 1 rfl ?_
  refine pz_sipush (v := (240 : Int32)) hC dX5_bestClaim_65 (by decide) ?_
  refine pz_iadd hC dX5_bestClaim_68 ?_
  refine pz_icmp_gt hC dX5_bestClaim_69 hf (fun _ hf => ?_) (fun _ hf => ?_)
  · refine pz_sub [5] rfl ?_
    exact tX5_bestClaim_132 hC hK hf
  · refine pz_iload hC dX5_bestClaim_72 7 rfl ?_
    refine pz_sipush (v := (1800 : Int32)) hC dX5_bestClaim_74 (by decide) ?_
    refine pz_icmp_ge hC dX5_bestClaim_77 hf (fun _ hf => ?_) (fun _ hf => ?_)
    · refine pz_sub [5] rfl ?_
      exact tX5_bestClaim_132 hC hK hf
    · refine pz_aload_n hC dX5_bestClaim_80 0 rfl ?_
      refine pz_lload hC dX5_bestClaim_81 2 rfl ?_
      refine pz_lload hC dX5_bestClaim_83 3 rfl ?_
      refine pz_lload hC dX5_bestClaim_85 4 rfl ?_
      refine pz_Sl (As := [.long l4, .long l6, .long l8]) hC hK dX5_bestClaim_87 py_X5_ownBy ps_X5_ownBy lk_X5_146 hf (fun _ h => mX5_ownBy h) rfl rfl (Nat.le_of_ble_eq_true rfl) ⟨by decide, by decide⟩ ⟨by decide, by decide⟩ (fun x1 hf => ?_)
      refine pz_iload_n hC dX5_bestClaim_90 1 rfl ?_
      refine pz_iload hC dX5_bestClaim_91 7 rfl ?_
      refine pz_Vl (As := [.long x1, .int l3, .int l13]) hC hK dX5_bestClaim_93 py_X5_worthApart pv_X5_worthApart lk_X5_160 hf (fun _ h => mX5_worthApart h) rfl rfl (Nat.le_of_ble_eq_true rfl) ⟨by decide, by decide⟩ ⟨Nat.le_of_ble_eq_true rfl, Nat.le_of_ble_eq_true rfl⟩ (fun x2 hf => ?_)
      refine pz_lstore hC dX5_bestClaim_96 (by decide) rfl ?_
      refine pz_lload hC dX5_bestClaim_98 0 rfl ?_
      refine pz_lload hC dX5_bestClaim_100 7 rfl ?_
      refine pz_lcmp hC dX5_bestClaim_102 ?_
      refine pz_if_le hC dX5_bestClaim_103 hf (fun _ hf => ?_) (fun _ hf => ?_)
      · refine pz_sub [1, 2, 3, 4, 5, 6, 7, 8] rfl ?_
        exact tX5_bestClaim_114 hC hK hk62 hf
      · refine pz_lload hC dX5_bestClaim_106 0 rfl ?_
        refine pz_lstore hC dX5_bestClaim_108 (by decide) rfl ?_
        refine pz_iload hC dX5_bestClaim_110 8 rfl ?_
        refine pz_istore hC dX5_bestClaim_112 (by decide) rfl ?_
        refine pz_sub [3, 4, 5, 6, 7, 0, 1, 8] rfl ?_
        exact tX5_bestClaim_114 hC hK hk62 hf
def fX5_bestClaim_62 : Nat → pz_H → Nat → Int32 → Int64 → Int64 → Int64 → Int32 → Int64 → Int32 → Option (Int32 × pz_H)
  | 0, _, _, _, _, _, _, _, _, _ => none
  | n + 1, f, l0, l3, l4, l6, l8, l10, l11, l13 => fX5_bestClaim_62b (fX5_bestClaim_62 n) f l0 l3 l4 l6 l8 l10 l11 l13
theorem tX5_bestClaim_62 {G : pz_G} {C : pz_C} {r : (Int32 × pz_H)} (hC : pz_OK G C cX5_bestClaim 16 RX5) (hK : pz_K C (some .int) 3 79 0 0) : ∀ (N : Nat) (f : pz_H) (l0 : Nat) (l3 : Int32) (l4 : Int64) (l6 : Int64) (l8 : Int64) (l10 : Int32) (l11 : Int64) (l13 : Int32), fX5_bestClaim_62 N f l0 l3 l4 l6 l8 l10 l11 l13 = some r → pz_W G C 16 62 [(0, .ref l0), (3, .int l3), (4, .long l4), (6, .long l6), (8, .long l8), (10, .int l10), (11, .long l11), (13, .int l13)] [] f 0 0 (pz_Q G C (some (.int r.1)) r.2 0 0) := by
  intro N
  induction N with
  | zero => intro f l0 l3 l4 l6 l8 l10 l11 l13 hf; cases hf
  | succ N ih => intro f l0 l3 l4 l6 l8 l10 l11 l13 hf; exact tX5_bestClaim_62b hC hK (fun f l0 l3 l4 l6 l8 l10 l11 l13 hf => ih f l0 l3 l4 l6 l8 l10 l11 l13 hf) hf
def fnX5_bestClaim (f : pz_H) (a0 : Nat) (p1 : Nat) (p2 : Nat) : Option (Int32 × pz_H) :=
  (pz_is f a0 4).bind fun _ =>
  (pz_gI f p1 2 1).bind fun v1 =>
  (pz_gI f p2 6 4).bind fun v2 =>
  if v2 = 0 then some (v1, f) else
  (fnX3_firstPay f p1).bind fun x3 =>
  (fnX3_shareOf f p1 p2 x3).bind fun x4 =>
  (pz_gI f p1 2 0).bind fun v5 =>
  (fnX5_annuityOf f a0 p1 v5 v1 v1).bind fun x6 =>
  (pz_gI x6.2 p2 6 0).bind fun v7 =>
  (fnX5_annuityOf x6.2 a0 p1 v7 v1 v1).bind fun x8 =>
  fX5_bestClaim_62 pz_F x8.2 a0 v1 x4 x6.1 x8.1 v1 (((-1) : Int64)) v1
theorem mX5_bestClaim {l : Launch} {G : pz_G} {f : pz_H} {a0 : Nat} {p1 : Nat} {p2 : Nat} {r : (Int32 × pz_H)} (hf : fnX5_bestClaim f a0 p1 p2 = some r) : pz_Met l G yX5_bestClaim cX5_bestClaim 16 (some .int) 3 79 0 0 [.ref a0, .ref p1, .ref p2] f (some (.int r.1)) r.2 ∧ pz_is f a0 4 = some () := by
  unfold fnX5_bestClaim at hf
  obtain ⟨_, h0, hf⟩ := pz_bd hf
  refine ⟨pz_enter (by decide +kernel) (Nat.le_of_ble_eq_true rfl) (fun C hl hC hK hnm => ?_), h0⟩
  subst hl
  refine pz_sub (lv' := [(0, .ref a0), (1, .ref p1), (2, .ref p2)]) [0, 1, 2] rfl ?_
  refine pz_aload_n hC dX5_bestClaim_0 1 rfl ?_
  refine pz_getI hC dX5_bestClaim_1 fa_X5_35 hf (fun v1 hf => ?_)
  refine pz_istore_n hC dX5_bestClaim_4 (by decide) rfl ?_
  refine pz_aload_n hC dX5_bestClaim_5 3 rfl ?_
  refine pz_getI hC dX5_bestClaim_6 fa_X5_75 hf (fun v2 hf => ?_)
  refine pz_if_ne hC dX5_bestClaim_9 hf (fun _ hf => ?_) (fun _ hf => ?_)
  · refine pz_aload_n hC dX5_bestClaim_14 2 rfl ?_
    refine pz_aload_n hC dX5_bestClaim_15 3 rfl ?_
    refine pz_aload_n hC dX5_bestClaim_16 2 rfl ?_
    refine pz_Vi (As := []) hC hK dX5_bestClaim_17 py_X3_firstPay pv_X3_firstPay lk_X5_41 hf (fun _ h => mX3_firstPay h) rfl rfl (Nat.le_of_ble_eq_true rfl) ⟨by decide, by decide⟩ ⟨Nat.le_of_ble_eq_true rfl, Nat.le_of_ble_eq_true rfl⟩ (fun x3 hf => ?_)
    refine pz_Vl (As := [.ref p2, .int x3]) hC hK dX5_bestClaim_20 py_X3_shareOf pv_X3_shareOf lk_X5_115 hf (fun _ h => mX3_shareOf h) rfl rfl (Nat.le_of_ble_eq_true rfl) ⟨by decide, by decide⟩ ⟨Nat.le_of_ble_eq_true rfl, Nat.le_of_ble_eq_true rfl⟩ (fun x4 hf => ?_)
    refine pz_lstore hC dX5_bestClaim_23 (by decide) rfl ?_
    refine pz_aload_n hC dX5_bestClaim_25 2 rfl ?_
    refine pz_aload_n hC dX5_bestClaim_26 3 rfl ?_
    refine pz_aload_n hC dX5_bestClaim_27 3 rfl ?_
    refine pz_getI hC dX5_bestClaim_28 fa_X5_138 hf (fun v5 hf => ?_)
    refine pz_iload_n hC dX5_bestClaim_31 1 rfl ?_
    refine pz_iload_n hC dX5_bestClaim_32 1 rfl ?_
    refine pz_Vlw (As := [.ref p1, .int v5, .int v1, .int v1]) hC hK dX5_bestClaim_33 py_X5_annuityOf pv_X5_annuityOf lk_X5_142 hf (fun _ h => mX5_annuityOf h) rfl rfl (Nat.le_of_ble_eq_true rfl) ⟨by decide, by decide⟩ ⟨Nat.le_of_ble_eq_true rfl, Nat.le_of_ble_eq_true rfl⟩ (fun x6 hf => ?_)
    refine pz_lstore hC dX5_bestClaim_36 (by decide) rfl ?_
    refine pz_aload_n hC dX5_bestClaim_38 3 rfl ?_
    refine pz_aload_n hC dX5_bestClaim_39 4 rfl ?_
    refine pz_aload_n hC dX5_bestClaim_40 5 rfl ?_
    refine pz_getI hC dX5_bestClaim_41 fa_X5_141 hf (fun v7 hf => ?_)
    refine pz_iload_n hC dX5_bestClaim_44 2 rfl ?_
    refine pz_iload_n hC dX5_bestClaim_45 2 rfl ?_
    refine pz_Vlw (As := [.ref p1, .int v7, .int v1, .int v1]) hC hK dX5_bestClaim_46 py_X5_annuityOf pv_X5_annuityOf lk_X5_142 hf (fun _ h => mX5_annuityOf h) rfl rfl (Nat.le_of_ble_eq_true rfl) ⟨by decide, by decide⟩ ⟨Nat.le_of_ble_eq_true rfl, Nat.le_of_ble_eq_true rfl⟩ (fun x8 hf => ?_)
    refine pz_lstore hC dX5_bestClaim_49 (by decide) rfl ?_
    refine pz_iload_n hC dX5_bestClaim_51 3 rfl ?_
    refine pz_istore hC dX5_bestClaim_52 (by decide) rfl ?_
    refine pz_ldc2 hC dX5_bestClaim_54 ck_X5_168 ?_
    refine pz_lstore hC dX5_bestClaim_57 (by decide) rfl ?_
    refine pz_iload_n hC dX5_bestClaim_59 5 rfl ?_
    refine pz_istore hC dX5_bestClaim_60 (by decide) rfl ?_
    refine pz_sub [7, 6, 5, 4, 3, 2, 1, 0] rfl ?_
    exact tX5_bestClaim_62 hC hK _ _ _ _ _ _ _ _ _ _ hf
  · refine pz_iload_n hC dX5_bestClaim_12 0 rfl ?_
    exact pz_iretw hC hK dX5_bestClaim_13 hf
def fX5_leastHalf_104 (k29 : pz_H → Nat → Nat → Int64 → Int32 → Int32 → Int32 → Option (Int32 × pz_H)) (f : pz_H) (l0 : Nat) (l1 : Nat) (l3 : Int64) (l5 : Int32) (l6 : Int32) (l7 : Int32) : Option (Int32 × pz_H) :=
  k29 f l0 l1 l3 l5 l6 ((l7 + 1))
theorem tX5_leastHalf_104 {G : pz_G} {C : pz_C} {f : pz_H} {k29 : pz_H → Nat → Nat → Int64 → Int32 → Int32 → Int32 → Option (Int32 × pz_H)} {l0 : Nat} {l1 : Nat} {l3 : Int64} {l5 : Int32} {l6 : Int32} {l7 : Int32} {r : (Int32 × pz_H)} (hC : pz_OK G C cX5_leastHalf 9 RX5) (hK : pz_K C (some .int) 5 131 0 0) (hk29 : ∀ (g : pz_H) (a0 : Nat) (a1 : Nat) (a3 : Int64) (a5 : Int32) (a6 : Int32) (a7 : Int32), k29 g a0 a1 a3 a5 a6 a7 = some r → pz_W G C 9 29 [(0, .ref a0), (1, .ref a1), (3, .long a3), (5, .int a5), (6, .int a6), (7, .int a7)] [] g 0 0 (pz_Q G C (some (.int r.1)) r.2 0 0)) (hf : fX5_leastHalf_104 k29 f l0 l1 l3 l5 l6 l7 = some r) : pz_W G C 9 104 [(0, .ref l0), (1, .ref l1), (3, .long l3), (5, .int l5), (6, .int l6), (7, .int l7)] [] f 0 0 (pz_Q G C (some (.int r.1)) r.2 0 0) := by
  unfold fX5_leastHalf_104 at hf
  refine pz_iinc (v := (l7 + 1)) hC dX5_leastHalf_104 5 rfl rfl (by decide) rfl ?_
  refine pz_goto hC dX5_leastHalf_107 ?_
  refine pz_sub [1, 2, 3, 4, 5, 0] rfl ?_
  exact hk29 _ _ _ _ _ _ _ hf
def fX5_leastHalf_100 (k29 : pz_H → Nat → Nat → Int64 → Int32 → Int32 → Int32 → Option (Int32 × pz_H)) (f : pz_H) (l0 : Nat) (l1 : Nat) (l3 : Int64) (l5 : Int32) (l7 : Int32) (l8 : Int32) : Option (Int32 × pz_H) :=
  fX5_leastHalf_104 k29 f l0 l1 l3 l5 l8 l7
theorem tX5_leastHalf_100 {G : pz_G} {C : pz_C} {f : pz_H} {k29 : pz_H → Nat → Nat → Int64 → Int32 → Int32 → Int32 → Option (Int32 × pz_H)} {l0 : Nat} {l1 : Nat} {l3 : Int64} {l5 : Int32} {l7 : Int32} {l8 : Int32} {r : (Int32 × pz_H)} (hC : pz_OK G C cX5_leastHalf 9 RX5) (hK : pz_K C (some .int) 5 131 0 0) (hk29 : ∀ (g : pz_H) (a0 : Nat) (a1 : Nat) (a3 : Int64) (a5 : Int32) (a6 : Int32) (a7 : Int32), k29 g a0 a1 a3 a5 a6 a7 = some r → pz_W G C 9 29 [(0, .ref a0), (1, .ref a1), (3, .long a3), (5, .int a5), (6, .int a6), (7, .int a7)] [] g 0 0 (pz_Q G C (some (.int r.1)) r.2 0 0)) (hf : fX5_leastHalf_100 k29 f l0 l1 l3 l5 l7 l8 = some r) : pz_W G C 9 100 [(0, .ref l0), (1, .ref l1), (3, .long l3), (5, .int l5), (7, .int l7), (8, .int l8)] [] f 0 0 (pz_Q G C (some (.int r.1)) r.2 0 0) := by
  unfold fX5_leastHalf_100 at hf
  refine pz_iload hC dX5_leastHalf_100 5 rfl ?_
  refine pz_istore hC dX5_leastHalf_102 (by decide) rfl ?_
  refine pz_sub [1, 2, 3, 4, 0, 5] rfl ?_
  exact tX5_leastHalf_104 hC hK hk29 hf
def fX5_leastHalf_124 (f : pz_H) (s0 : Int32) : Option (Int32 × pz_H) :=
  some (s0, f)
theorem tX5_leastHalf_124 {G : pz_G} {C : pz_C} {f : pz_H} {s0 : Int32} {r : (Int32 × pz_H)} (hC : pz_OK G C cX5_leastHalf 9 RX5) (hK : pz_K C (some .int) 5 131 0 0) (hf : fX5_leastHalf_124 f s0 = some r) : pz_W G C 9 124 [] [.int s0] f 0 0 (pz_Q G C (some (.int r.1)) r.2 0 0) := by
  unfold fX5_leastHalf_124 at hf
  exact pz_iretw hC hK dX5_leastHalf_124 hf
def fX5_leastHalf_110 (f : pz_H) (l5 : Int32) : Option (Int32 × pz_H) :=
  if l5 ≤ (1000 : Int32) then fX5_leastHalf_124 f l5 else
  fX5_leastHalf_124 f (((-1) : Int32))
theorem tX5_leastHalf_110 {G : pz_G} {C : pz_C} {f : pz_H} {l5 : Int32} {r : (Int32 × pz_H)} (hC : pz_OK G C cX5_leastHalf 9 RX5) (hK : pz_K C (some .int) 5 131 0 0) (hf : fX5_leastHalf_110 f l5 = some r) : pz_W G C 9 110 [(5, .int l5)] [] f 0 0 (pz_Q G C (some (.int r.1)) r.2 0 0) := by
  unfold fX5_leastHalf_110 at hf
  refine pz_iload hC dX5_leastHalf_110 0 rfl ?_
  refine pz_sipush (v := (1000 : Int32)) hC dX5_leastHalf_112 (by decide) ?_
  refine pz_icmp_le hC dX5_leastHalf_115 hf (fun _ hf => ?_) (fun _ hf => ?_)
  · refine pz_iload hC dX5_leastHalf_122 0 rfl ?_
    refine pz_sub [] rfl ?_
    exact tX5_leastHalf_124 hC hK hf
  · refine pz_iconst (v := ((-1) : Int32)) hC dX5_leastHalf_118 (by decide) ?_
    refine pz_goto hC dX5_leastHalf_119 ?_
    refine pz_sub [] rfl ?_
    exact tX5_leastHalf_124 hC hK hf
def fX5_leastHalf_29b (k29 : pz_H → Nat → Nat → Int64 → Int32 → Int32 → Int32 → Option (Int32 × pz_H)) (f : pz_H) (l0 : Nat) (l1 : Nat) (l3 : Int64) (l5 : Int32) (l6 : Int32) (l7 : Int32) : Option (Int32 × pz_H) :=
  if (16 : Int32) ≤ l7 then fX5_leastHalf_110 f l5 else
  if l6 ≤ l5 then fX5_leastHalf_110 f l5 else
  (pz_gR f l0 4 5).bind fun v1 =>
  (pz_sV f v1 6 3 (.int ((l5 + l6) / (2 : Int32)))).bind fun f2 =>
  if (1000 : Int32) < ((l5 + l6) / (2 : Int32)) then fX5_leastHalf_100 k29 f2 l0 l1 l3 l5 l7 (((l5 + l6) / (2 : Int32))) else
  (pz_gR f2 l0 4 5).bind fun v3 =>
  (pz_gI f2 l1 2 1).bind fun v4 =>
  (fnX5_worthOfSpouse f2 l0 l1 v3 v4).bind fun x5 =>
  if 0 ≤ (lg_cmp (((2 : Int64) * x5.1)) l3) then fX5_leastHalf_100 k29 x5.2 l0 l1 l3 l5 l7 (((l5 + l6) / (2 : Int32))) else
  fX5_leastHalf_104 k29 x5.2 l0 l1 l3 ((((l5 + l6) / (2 : Int32)) + (1 : Int32))) l6 l7
theorem tX5_leastHalf_29b {G : pz_G} {C : pz_C} {f : pz_H} {k29 : pz_H → Nat → Nat → Int64 → Int32 → Int32 → Int32 → Option (Int32 × pz_H)} {l0 : Nat} {l1 : Nat} {l3 : Int64} {l5 : Int32} {l6 : Int32} {l7 : Int32} {r : (Int32 × pz_H)} (hC : pz_OK G C cX5_leastHalf 9 RX5) (hK : pz_K C (some .int) 5 131 0 0) (hk29 : ∀ (g : pz_H) (a0 : Nat) (a1 : Nat) (a3 : Int64) (a5 : Int32) (a6 : Int32) (a7 : Int32), k29 g a0 a1 a3 a5 a6 a7 = some r → pz_W G C 9 29 [(0, .ref a0), (1, .ref a1), (3, .long a3), (5, .int a5), (6, .int a6), (7, .int a7)] [] g 0 0 (pz_Q G C (some (.int r.1)) r.2 0 0)) (hf : fX5_leastHalf_29b k29 f l0 l1 l3 l5 l6 l7 = some r) : pz_W G C 9 29 [(0, .ref l0), (1, .ref l1), (3, .long l3), (5, .int l5), (6, .int l6), (7, .int l7)] [] f 0 0 (pz_Q G C (some (.int r.1)) r.2 0 0) := by
  unfold fX5_leastHalf_29b at hf
  refine pz_iload hC dX5_leastHalf_29 5 rfl ?_
  refine pz_bipush (v := (16 : Int32)) hC dX5_leastHalf_31 (by decide) ?_
  refine pz_icmp_ge hC dX5_leastHalf_33 hf (fun _ hf => ?_) (fun _ hf => ?_)
  · refine pz_sub [3] rfl ?_
    exact tX5_leastHalf_110 hC hK hf
  · refine pz_iload hC dX5_leastHalf_36 3 rfl ?_
    refine pz_iload hC dX5_leastHalf_38 4 rfl ?_
    refine pz_icmp_ge hC dX5_leastHalf_40 hf (fun _ hf => ?_) (fun _ hf => ?_)
    · refine pz_sub [3] rfl ?_
      exact tX5_leastHalf_110 hC hK hf
    · refine pz_iload hC dX5_leastHalf_43 3 rfl ?_
      refine pz_iload hC dX5_leastHalf_45 4 rfl ?_
      refine pz_iadd hC dX5_leastHalf_47 ?_
      refine pz_iconst (v := (2 : Int32)) hC dX5_leastHalf_48 (by decide) ?_
      refine pz_idivc hC dX5_leastHalf_49 (by decide) ?_
      refine pz_istore hC dX5_leastHalf_50 (by decide) rfl ?_
      refine pz_aload_n hC dX5_leastHalf_52 1 rfl ?_
      refine pz_getR hC dX5_leastHalf_53 fa_X5_31 hf (fun v1 hf => ?_)
      refine pz_iload hC dX5_leastHalf_56 0 rfl ?_
      refine pz_putV hC dX5_leastHalf_58 fp_X5_173 rfl rfl hf (fun f2 hf => ?_)
      refine pz_iload hC dX5_leastHalf_61 0 rfl ?_
      refine pz_sipush (v := (1000 : Int32)) hC dX5_leastHalf_63 (by decide) ?_
      refine pz_icmp_gt hC dX5_leastHalf_66 hf (fun _ hf => ?_) (fun _ hf => ?_)
      · refine pz_sub [1, 2, 3, 4, 6, 0] rfl ?_
        exact tX5_leastHalf_100 hC hK hk29 hf
      · refine pz_ldc2 hC dX5_leastHalf_69 ck_X5_176 ?_
        refine pz_aload_n hC dX5_leastHalf_72 1 rfl ?_
        refine pz_aload_n hC dX5_leastHalf_73 2 rfl ?_
        refine pz_aload_n hC dX5_leastHalf_74 1 rfl ?_
        refine pz_getR hC dX5_leastHalf_75 fa_X5_31 hf (fun v3 hf => ?_)
        refine pz_aload_n hC dX5_leastHalf_78 2 rfl ?_
        refine pz_getI hC dX5_leastHalf_79 fa_X5_35 hf (fun v4 hf => ?_)
        refine pz_Vlw (As := [.ref l1, .ref v3, .int v4]) hC hK dX5_leastHalf_82 py_X5_worthOfSpouse pv_X5_worthOfSpouse lk_X5_178 hf (fun _ h => mX5_worthOfSpouse h) rfl rfl (Nat.le_of_ble_eq_true rfl) ⟨by decide, by decide⟩ ⟨Nat.le_of_ble_eq_true rfl, Nat.le_of_ble_eq_true rfl⟩ (fun x5 hf => ?_)
        refine pz_lmul hC dX5_leastHalf_85 ?_
        refine pz_lload_n hC dX5_leastHalf_86 3 rfl ?_
        refine pz_lcmp hC dX5_leastHalf_87 ?_
        refine pz_if_ge hC dX5_leastHalf_88 hf (fun _ hf => ?_) (fun _ hf => ?_)
        · refine pz_sub [1, 2, 3, 4, 6, 0] rfl ?_
          exact tX5_leastHalf_100 hC hK hk29 hf
        · refine pz_iload hC dX5_leastHalf_91 0 rfl ?_
          refine pz_iconst (v := (1 : Int32)) hC dX5_leastHalf_93 (by decide) ?_
          refine pz_iadd hC dX5_leastHalf_94 ?_
          refine pz_istore hC dX5_leastHalf_95 (by decide) rfl ?_
          refine pz_goto hC dX5_leastHalf_97 ?_
          refine pz_sub [2, 3, 4, 0, 5, 6] rfl ?_
          exact tX5_leastHalf_104 hC hK hk29 hf
def fX5_leastHalf_29 : Nat → pz_H → Nat → Nat → Int64 → Int32 → Int32 → Int32 → Option (Int32 × pz_H)
  | 0, _, _, _, _, _, _, _ => none
  | n + 1, f, l0, l1, l3, l5, l6, l7 => fX5_leastHalf_29b (fX5_leastHalf_29 n) f l0 l1 l3 l5 l6 l7
theorem tX5_leastHalf_29 {G : pz_G} {C : pz_C} {r : (Int32 × pz_H)} (hC : pz_OK G C cX5_leastHalf 9 RX5) (hK : pz_K C (some .int) 5 131 0 0) : ∀ (N : Nat) (f : pz_H) (l0 : Nat) (l1 : Nat) (l3 : Int64) (l5 : Int32) (l6 : Int32) (l7 : Int32), fX5_leastHalf_29 N f l0 l1 l3 l5 l6 l7 = some r → pz_W G C 9 29 [(0, .ref l0), (1, .ref l1), (3, .long l3), (5, .int l5), (6, .int l6), (7, .int l7)] [] f 0 0 (pz_Q G C (some (.int r.1)) r.2 0 0) := by
  intro N
  induction N with
  | zero => intro f l0 l1 l3 l5 l6 l7 hf; cases hf
  | succ N ih => intro f l0 l1 l3 l5 l6 l7 hf; exact tX5_leastHalf_29b hC hK (fun f l0 l1 l3 l5 l6 l7 hf => ih f l0 l1 l3 l5 l6 l7 hf) hf
def fnX5_leastHalf (f : pz_H) (a0 : Nat) (p1 : Nat) (p2 : Nat) : Option (Int32 × pz_H) :=
  (pz_is f a0 4).bind fun _ =>
  (pz_gI f p1 2 1).bind fun v1 =>
  (fnX5_worthOfAll f a0 p1 v1).bind fun x2 =>
  (pz_gR x2.2 a0 4 5).bind fun v3 =>
  (fnX7_copyFrom x2.2 v3 p2).bind fun x4 =>
  fX5_leastHalf_29 pz_F x4 a0 p1 x2.1 ((0 : Int32)) ((1001 : Int32)) ((0 : Int32))
theorem mX5_leastHalf {l : Launch} {G : pz_G} {f : pz_H} {a0 : Nat} {p1 : Nat} {p2 : Nat} {r : (Int32 × pz_H)} (hf : fnX5_leastHalf f a0 p1 p2 = some r) : pz_Met l G yX5_leastHalf cX5_leastHalf 9 (some .int) 5 131 0 0 [.ref a0, .ref p1, .ref p2] f (some (.int r.1)) r.2 ∧ pz_is f a0 4 = some () := by
  unfold fnX5_leastHalf at hf
  obtain ⟨_, h0, hf⟩ := pz_bd hf
  refine ⟨pz_enter (by decide +kernel) (Nat.le_of_ble_eq_true rfl) (fun C hl hC hK hnm => ?_), h0⟩
  subst hl
  refine pz_sub (lv' := [(0, .ref a0), (1, .ref p1), (2, .ref p2)]) [0, 1, 2] rfl ?_
  refine pz_aload_n hC dX5_leastHalf_0 0 rfl ?_
  refine pz_aload_n hC dX5_leastHalf_1 1 rfl ?_
  refine pz_aload_n hC dX5_leastHalf_2 1 rfl ?_
  refine pz_getI hC dX5_leastHalf_3 fa_X5_35 hf (fun v1 hf => ?_)
  refine pz_Vlw (As := [.ref p1, .int v1]) hC hK dX5_leastHalf_6 py_X5_worthOfAll pv_X5_worthOfAll lk_X5_170 hf (fun _ h => mX5_worthOfAll h) rfl rfl (Nat.le_of_ble_eq_true rfl) ⟨by decide, by decide⟩ ⟨Nat.le_of_ble_eq_true rfl, Nat.le_of_ble_eq_true rfl⟩ (fun x2 hf => ?_)
  refine pz_lstore_n hC dX5_leastHalf_9 (by decide) rfl ?_
  refine pz_aload_n hC dX5_leastHalf_10 1 rfl ?_
  refine pz_getR hC dX5_leastHalf_11 fa_X5_31 hf (fun v3 hf => ?_)
  refine pz_aload_n hC dX5_leastHalf_14 3 rfl ?_
  refine pz_Vv (As := [.ref p2]) hC hK dX5_leastHalf_15 py_X7_copyFrom pv_X7_copyFrom lk_X5_123 hf (fun _ h => mX7_copyFrom h) rfl rfl (Nat.le_of_ble_eq_true rfl) ⟨by decide, by decide⟩ ⟨Nat.le_of_ble_eq_true rfl, Nat.le_of_ble_eq_true rfl⟩ (fun x4 hf => ?_)
  refine pz_iconst (v := (0 : Int32)) hC dX5_leastHalf_18 (by decide) ?_
  refine pz_istore hC dX5_leastHalf_19 (by decide) rfl ?_
  refine pz_sipush (v := (1001 : Int32)) hC dX5_leastHalf_21 (by decide) ?_
  refine pz_istore hC dX5_leastHalf_24 (by decide) rfl ?_
  refine pz_iconst (v := (0 : Int32)) hC dX5_leastHalf_26 (by decide) ?_
  refine pz_istore hC dX5_leastHalf_27 (by decide) rfl ?_
  refine pz_sub [4, 5, 3, 2, 1, 0] rfl ?_
  exact tX5_leastHalf_29 hC hK _ _ _ _ _ _ _ _ hf
def fnX9_init (f : pz_H) (a0 : Nat) : Option pz_H :=
  (pz_sV f a0 8 0 (.int (0 : Int32))).bind fun f1 =>
  (fnX3_init (pz_nw f1 (.inl (2, [.int 0, .int 0, .int 0, .null, .null, .int 0, .int 0, .null, .int 0, .null]))) f1.2.2).bind fun x2 =>
  (pz_sV x2 a0 8 1 (.ref f1.2.2)).bind fun f3 =>
  (fnX3_init (pz_nw f3 (.inl (2, [.int 0, .int 0, .int 0, .null, .null, .int 0, .int 0, .null, .int 0, .null]))) f3.2.2).bind fun x4 =>
  (pz_sV x4 a0 8 2 (.ref f3.2.2)).bind fun f5 =>
  (pz_sV (pz_nw f5 (.inr (5, 12, .inr (.inr (fun _ => none))))) a0 8 3 (.ref f5.2.2)).bind fun f6 =>
  (pz_sV f6 a0 8 4 (.int (0 : Int32))).bind fun f7 =>
  (fnX4_init (pz_nw f7 (.inl (3, [.null, .int 0, .int 0, .int 0, .int 0, .int 0, .null, .int 0]))) f7.2.2).bind fun x8 =>
  (pz_sV x8 a0 8 5 (.ref f7.2.2)).bind fun f9 =>
  (fnX5_init (pz_nw f9 (.inl (4, [.null, .null, .null, .null, .null, .null]))) f9.2.2).bind fun x10 =>
  (pz_sV x10 a0 8 6 (.ref f9.2.2)).bind fun f11 =>
  (fnX1_init (pz_nw f11 (.inl (0, [.null, .int 0]))) f11.2.2).bind fun x12 =>
  (pz_sV x12 a0 8 7 (.ref f11.2.2)).bind fun f13 =>
  (pz_gR f13 a0 8 3).bind fun v14 =>
  (fnX3_init (pz_nw f13 (.inl (2, [.int 0, .int 0, .int 0, .null, .null, .int 0, .int 0, .null, .int 0, .null]))) f13.2.2).bind fun x15 =>
  (pz_tR x15 v14 5 2 ((0 : Int32)) f13.2.2).bind fun f16 =>
  (pz_gR f16 a0 8 3).bind fun v17 =>
  (fnX3_init (pz_nw f16 (.inl (2, [.int 0, .int 0, .int 0, .null, .null, .int 0, .int 0, .null, .int 0, .null]))) f16.2.2).bind fun x18 =>
  (pz_tR x18 v17 5 2 ((1 : Int32)) f16.2.2).bind fun f19 =>
  (pz_gR f19 a0 8 3).bind fun v20 =>
  (fnX3_init (pz_nw f19 (.inl (2, [.int 0, .int 0, .int 0, .null, .null, .int 0, .int 0, .null, .int 0, .null]))) f19.2.2).bind fun x21 =>
  (pz_tR x21 v20 5 2 ((2 : Int32)) f19.2.2).bind fun f22 =>
  (pz_gR f22 a0 8 3).bind fun v23 =>
  (fnX3_init (pz_nw f22 (.inl (2, [.int 0, .int 0, .int 0, .null, .null, .int 0, .int 0, .null, .int 0, .null]))) f22.2.2).bind fun x24 =>
  (pz_tR x24 v23 5 2 ((3 : Int32)) f22.2.2).bind fun f25 =>
  (pz_gR f25 a0 8 3).bind fun v26 =>
  (fnX3_init (pz_nw f25 (.inl (2, [.int 0, .int 0, .int 0, .null, .null, .int 0, .int 0, .null, .int 0, .null]))) f25.2.2).bind fun x27 =>
  (pz_tR x27 v26 5 2 ((4 : Int32)) f25.2.2).bind fun f28 =>
  (pz_gR f28 a0 8 3).bind fun v29 =>
  (fnX3_init (pz_nw f28 (.inl (2, [.int 0, .int 0, .int 0, .null, .null, .int 0, .int 0, .null, .int 0, .null]))) f28.2.2).bind fun x30 =>
  (pz_tR x30 v29 5 2 ((5 : Int32)) f28.2.2).bind fun f31 =>
  (pz_gR f31 a0 8 3).bind fun v32 =>
  (fnX3_init (pz_nw f31 (.inl (2, [.int 0, .int 0, .int 0, .null, .null, .int 0, .int 0, .null, .int 0, .null]))) f31.2.2).bind fun x33 =>
  (pz_tR x33 v32 5 2 ((6 : Int32)) f31.2.2).bind fun f34 =>
  (pz_gR f34 a0 8 3).bind fun v35 =>
  (fnX3_init (pz_nw f34 (.inl (2, [.int 0, .int 0, .int 0, .null, .null, .int 0, .int 0, .null, .int 0, .null]))) f34.2.2).bind fun x36 =>
  (pz_tR x36 v35 5 2 ((7 : Int32)) f34.2.2).bind fun f37 =>
  (pz_gR f37 a0 8 3).bind fun v38 =>
  (fnX3_init (pz_nw f37 (.inl (2, [.int 0, .int 0, .int 0, .null, .null, .int 0, .int 0, .null, .int 0, .null]))) f37.2.2).bind fun x39 =>
  (pz_tR x39 v38 5 2 ((8 : Int32)) f37.2.2).bind fun f40 =>
  (pz_gR f40 a0 8 3).bind fun v41 =>
  (fnX3_init (pz_nw f40 (.inl (2, [.int 0, .int 0, .int 0, .null, .null, .int 0, .int 0, .null, .int 0, .null]))) f40.2.2).bind fun x42 =>
  (pz_tR x42 v41 5 2 ((9 : Int32)) f40.2.2).bind fun f43 =>
  (pz_gR f43 a0 8 3).bind fun v44 =>
  (fnX3_init (pz_nw f43 (.inl (2, [.int 0, .int 0, .int 0, .null, .null, .int 0, .int 0, .null, .int 0, .null]))) f43.2.2).bind fun x45 =>
  (pz_tR x45 v44 5 2 ((10 : Int32)) f43.2.2).bind fun f46 =>
  (pz_gR f46 a0 8 3).bind fun v47 =>
  (fnX3_init (pz_nw f46 (.inl (2, [.int 0, .int 0, .int 0, .null, .null, .int 0, .int 0, .null, .int 0, .null]))) f46.2.2).bind fun x48 =>
  (pz_tR x48 v47 5 2 ((11 : Int32)) f46.2.2).bind fun f49 =>
  some f49
theorem mX9_init {l : Launch} {G : pz_G} {f : pz_H} {a0 : Nat} {r : pz_H} (hf : fnX9_init f a0 = some r) : pz_Met l G yX9_init cX9_init 2 none 3 61 279 9219 [.ref a0] f none r := by
  unfold fnX9_init at hf
  refine pz_enter (by decide +kernel) (Nat.le_of_ble_eq_true rfl) (fun C hl hC hK hnm => ?_)
  subst hl
  refine pz_sub (lv' := [(0, .ref a0)]) [0] rfl ?_
  refine pz_aload_n hC dX9_init_0 0 rfl ?_
  refine pz_objInit hC hK dX9_init_1 ol_X9_1 ob_inst ob_code (by decide) (Nat.le_of_ble_eq_true rfl) ?_
  refine pz_aload_n hC dX9_init_4 0 rfl ?_
  refine pz_iconst (v := (0 : Int32)) hC dX9_init_5 (by decide) ?_
  refine pz_putV hC dX9_init_6 fp_X9_7 rfl rfl hf (fun f1 hf => ?_)
  refine pz_aload_n hC dX9_init_9 0 rfl ?_
  refine pz_new (ci := 2) (fs := [.int 0, .int 0, .int 0, .null, .null, .int 0, .int 0, .null, .int 0, .null]) (ty := tyX3) (T := TX3) (n' := 1) (k' := 10) hC hK dX9_init_10 rfl pz_wsX3 tyX3_ok (List.mem_of_getElem? (i := 149) (by decide +kernel)) (List.mem_of_getElem? (i := 150) (by decide +kernel)) (List.mem_of_getElem? (i := 121) (by decide +kernel)) (by decide +kernel) rfl rfl ⟨Nat.le_of_ble_eq_true rfl, Nat.le_of_ble_eq_true rfl⟩ ?_
  refine pz_dup hC dX9_init_13 rfl ?_
  refine pz_Iv (As := []) hC hK dX9_init_14 py_X3_init pi_X3_init lk_X9_15 hf (fun _ h => mX3_init h) rfl rfl (Nat.le_of_ble_eq_true rfl) ⟨by decide, by decide⟩ ⟨Nat.le_of_ble_eq_true rfl, Nat.le_of_ble_eq_true rfl⟩ (n' := 19) (k' := 110) rfl rfl (fun x2 hf => ?_)
  refine pz_putF hC hnm dX9_init_17 fp_X9_16 (fun q h => by cases h; rfl) rfl rfl rfl hf (fun f3 hf => ?_)
  refine pz_aload_n hC dX9_init_20 0 rfl ?_
  refine pz_new (ci := 2) (fs := [.int 0, .int 0, .int 0, .null, .null, .int 0, .int 0, .null, .int 0, .null]) (ty := tyX3) (T := TX3) (n' := 20) (k' := 120) hC hK dX9_init_21 rfl pz_wsX3 tyX3_ok (List.mem_of_getElem? (i := 149) (by decide +kernel)) (List.mem_of_getElem? (i := 150) (by decide +kernel)) (List.mem_of_getElem? (i := 121) (by decide +kernel)) (by decide +kernel) rfl rfl ⟨Nat.le_of_ble_eq_true rfl, Nat.le_of_ble_eq_true rfl⟩ ?_
  refine pz_dup hC dX9_init_24 rfl ?_
  refine pz_Iv (As := []) hC hK dX9_init_25 py_X3_init pi_X3_init lk_X9_15 hf (fun _ h => mX3_init h) rfl rfl (Nat.le_of_ble_eq_true rfl) ⟨by decide, by decide⟩ ⟨Nat.le_of_ble_eq_true rfl, Nat.le_of_ble_eq_true rfl⟩ (n' := 38) (k' := 220) rfl rfl (fun x4 hf => ?_)
  refine pz_putF hC hnm dX9_init_28 fp_X9_20 (fun q h => by cases h; rfl) rfl rfl rfl hf (fun f5 hf => ?_)
  refine pz_aload_n hC dX9_init_31 0 rfl ?_
  refine pz_bipush (v := (12 : Int32)) hC dX9_init_32 (by decide) ?_
  refine pz_anew (Cn := "PartedPension$Plan") (t := 5) (N := 12) (n' := 39) (k' := 232) hC hK dX9_init_34 (List.mem_of_getElem? (i := 149) (by decide +kernel)) (fun _ => rfl) ⟨by decide, by decide⟩ (by decide) (by decide +kernel) (by decide) rfl rfl ⟨Nat.le_of_ble_eq_true rfl, Nat.le_of_ble_eq_true rfl⟩ ?_
  refine pz_putF hC hnm dX9_init_37 fp_X9_23 (fun q h => by cases h; rfl) rfl rfl rfl hf (fun f6 hf => ?_)
  refine pz_aload_n hC dX9_init_40 0 rfl ?_
  refine pz_iconst (v := (0 : Int32)) hC dX9_init_41 (by decide) ?_
  refine pz_putV hC dX9_init_42 fp_X9_27 rfl rfl hf (fun f7 hf => ?_)
  refine pz_aload_n hC dX9_init_45 0 rfl ?_
  refine pz_new (ci := 3) (fs := [.null, .int 0, .int 0, .int 0, .int 0, .int 0, .null, .int 0]) (ty := tyX4) (T := TX4) (n' := 40) (k' := 240) hC hK dX9_init_46 rfl pz_wsX4 tyX4_ok (List.mem_of_getElem? (i := 324) (by decide +kernel)) (List.mem_of_getElem? (i := 325) (by decide +kernel)) (List.mem_of_getElem? (i := 125) (by decide +kernel)) (by decide +kernel) rfl rfl ⟨Nat.le_of_ble_eq_true rfl, Nat.le_of_ble_eq_true rfl⟩ ?_
  refine pz_dup hC dX9_init_49 rfl ?_
  refine pz_Iv (As := []) hC hK dX9_init_50 py_X4_init pi_X4_init lk_X9_32 hf (fun _ h => mX4_init h) rfl rfl (Nat.le_of_ble_eq_true rfl) ⟨by decide, by decide⟩ ⟨Nat.le_of_ble_eq_true rfl, Nat.le_of_ble_eq_true rfl⟩ (n' := 42) (k' := 644) rfl rfl (fun x8 hf => ?_)
  refine pz_putF hC hnm dX9_init_53 fp_X9_33 (fun q h => by cases h; rfl) rfl rfl rfl hf (fun f9 hf => ?_)
  refine pz_aload_n hC dX9_init_56 0 rfl ?_
  refine pz_new (ci := 4) (fs := [.null, .null, .null, .null, .null, .null]) (ty := tyX5) (T := TX5) (n' := 43) (k' := 650) hC hK dX9_init_57 rfl pz_wsX5 tyX5_ok (List.mem_of_getElem? (i := 358) (by decide +kernel)) (List.mem_of_getElem? (i := 359) (by decide +kernel)) (List.mem_of_getElem? (i := 126) (by decide +kernel)) (by decide +kernel) rfl rfl ⟨Nat.le_of_ble_eq_true rfl, Nat.le_of_ble_eq_true rfl⟩ ?_
  refine pz_dup hC dX9_init_60 rfl ?_
  refine pz_Iv (As := []) hC hK dX9_init_61 py_X5_init pi_X5_init lk_X9_39 hf (fun _ h => mX5_init h) rfl rfl (Nat.le_of_ble_eq_true rfl) ⟨by decide, by decide⟩ ⟨Nat.le_of_ble_eq_true rfl, Nat.le_of_ble_eq_true rfl⟩ (n' := 49) (k' := 7863) rfl rfl (fun x10 hf => ?_)
  refine pz_putF hC hnm dX9_init_64 fp_X9_40 (fun q h => by cases h; rfl) rfl rfl rfl hf (fun f11 hf => ?_)
  refine pz_aload_n hC dX9_init_67 0 rfl ?_
  refine pz_new (ci := 0) (fs := [.null, .int 0]) (ty := tyX1) (T := TX1) (n' := 50) (k' := 7865) hC hK dX9_init_68 rfl pz_wsX1 tyX1_ok (List.mem_of_getElem? (i := 388) (by decide +kernel)) (List.mem_of_getElem? (i := 389) (by decide +kernel)) (List.mem_of_getElem? (i := 127) (by decide +kernel)) (by decide +kernel) rfl rfl ⟨Nat.le_of_ble_eq_true rfl, Nat.le_of_ble_eq_true rfl⟩ ?_
  refine pz_dup hC dX9_init_71 rfl ?_
  refine pz_Iv (As := []) hC hK dX9_init_72 py_X1_init pi_X1_init lk_X9_46 hf (fun _ h => mX1_init h) rfl rfl (Nat.le_of_ble_eq_true rfl) ⟨by decide, by decide⟩ ⟨Nat.le_of_ble_eq_true rfl, Nat.le_of_ble_eq_true rfl⟩ (n' := 51) (k' := 7899) rfl rfl (fun x12 hf => ?_)
  refine pz_putF hC hnm dX9_init_75 fp_X9_47 (fun q h => by cases h; rfl) rfl rfl rfl hf (fun f13 hf => ?_)
  refine pz_iconst (v := (0 : Int32)) hC dX9_init_78 (by decide) ?_
  refine pz_istore_n hC dX9_init_79 (by decide) rfl ?_
  refine pz_iload_n hC dX9_init_80 0 rfl ?_
  refine pz_bipush (v := (12 : Int32)) hC dX9_init_81 (by decide) ?_
  refine pz_icmp_geF hC dX9_init_83 (by decide) ?_
  refine pz_aload_n hC dX9_init_86 1 rfl ?_
  refine pz_getR hC dX9_init_87 fa_X9_23 hf (fun v14 hf => ?_)
  refine pz_iload_n hC dX9_init_90 0 rfl ?_
  refine pz_new (ci := 2) (fs := [.int 0, .int 0, .int 0, .null, .null, .int 0, .int 0, .null, .int 0, .null]) (ty := tyX3) (T := TX3) (n' := 52) (k' := 7909) hC hK dX9_init_91 rfl pz_wsX3 tyX3_ok (List.mem_of_getElem? (i := 149) (by decide +kernel)) (List.mem_of_getElem? (i := 150) (by decide +kernel)) (List.mem_of_getElem? (i := 121) (by decide +kernel)) (by decide +kernel) rfl rfl ⟨Nat.le_of_ble_eq_true rfl, Nat.le_of_ble_eq_true rfl⟩ ?_
  refine pz_dup hC dX9_init_94 rfl ?_
  refine pz_Iv (As := []) hC hK dX9_init_95 py_X3_init pi_X3_init lk_X9_15 hf (fun _ h => mX3_init h) rfl rfl (Nat.le_of_ble_eq_true rfl) ⟨by decide, by decide⟩ ⟨Nat.le_of_ble_eq_true rfl, Nat.le_of_ble_eq_true rfl⟩ (n' := 70) (k' := 8009) rfl rfl (fun x15 hf => ?_)
  refine pz_aast (T := TX3) (N := 10) hC dX9_init_98 (fun _ => rfl) (by decide) rfl hf (fun f16 hf => ?_)
  refine pz_iinc (v := (1 : Int32)) hC dX9_init_99 0 rfl (by decide) (by decide) rfl ?_
  refine pz_goto hC dX9_init_102 ?_
  refine pz_iload_n hC dX9_init_80 0 rfl ?_
  refine pz_bipush (v := (12 : Int32)) hC dX9_init_81 (by decide) ?_
  refine pz_icmp_geF hC dX9_init_83 (by decide) ?_
  refine pz_aload_n hC dX9_init_86 1 rfl ?_
  refine pz_getR hC dX9_init_87 fa_X9_23 hf (fun v17 hf => ?_)
  refine pz_iload_n hC dX9_init_90 0 rfl ?_
  refine pz_new (ci := 2) (fs := [.int 0, .int 0, .int 0, .null, .null, .int 0, .int 0, .null, .int 0, .null]) (ty := tyX3) (T := TX3) (n' := 71) (k' := 8019) hC hK dX9_init_91 rfl pz_wsX3 tyX3_ok (List.mem_of_getElem? (i := 149) (by decide +kernel)) (List.mem_of_getElem? (i := 150) (by decide +kernel)) (List.mem_of_getElem? (i := 121) (by decide +kernel)) (by decide +kernel) rfl rfl ⟨Nat.le_of_ble_eq_true rfl, Nat.le_of_ble_eq_true rfl⟩ ?_
  refine pz_dup hC dX9_init_94 rfl ?_
  refine pz_Iv (As := []) hC hK dX9_init_95 py_X3_init pi_X3_init lk_X9_15 hf (fun _ h => mX3_init h) rfl rfl (Nat.le_of_ble_eq_true rfl) ⟨by decide, by decide⟩ ⟨Nat.le_of_ble_eq_true rfl, Nat.le_of_ble_eq_true rfl⟩ (n' := 89) (k' := 8119) rfl rfl (fun x18 hf => ?_)
  refine pz_aast (T := TX3) (N := 10) hC dX9_init_98 (fun _ => rfl) (by decide) rfl hf (fun f19 hf => ?_)
  refine pz_iinc (v := (2 : Int32)) hC dX9_init_99 0 rfl (by decide) (by decide) rfl ?_
  refine pz_goto hC dX9_init_102 ?_
  refine pz_iload_n hC dX9_init_80 0 rfl ?_
  refine pz_bipush (v := (12 : Int32)) hC dX9_init_81 (by decide) ?_
  refine pz_icmp_geF hC dX9_init_83 (by decide) ?_
  refine pz_aload_n hC dX9_init_86 1 rfl ?_
  refine pz_getR hC dX9_init_87 fa_X9_23 hf (fun v20 hf => ?_)
  refine pz_iload_n hC dX9_init_90 0 rfl ?_
  refine pz_new (ci := 2) (fs := [.int 0, .int 0, .int 0, .null, .null, .int 0, .int 0, .null, .int 0, .null]) (ty := tyX3) (T := TX3) (n' := 90) (k' := 8129) hC hK dX9_init_91 rfl pz_wsX3 tyX3_ok (List.mem_of_getElem? (i := 149) (by decide +kernel)) (List.mem_of_getElem? (i := 150) (by decide +kernel)) (List.mem_of_getElem? (i := 121) (by decide +kernel)) (by decide +kernel) rfl rfl ⟨Nat.le_of_ble_eq_true rfl, Nat.le_of_ble_eq_true rfl⟩ ?_
  refine pz_dup hC dX9_init_94 rfl ?_
  refine pz_Iv (As := []) hC hK dX9_init_95 py_X3_init pi_X3_init lk_X9_15 hf (fun _ h => mX3_init h) rfl rfl (Nat.le_of_ble_eq_true rfl) ⟨by decide, by decide⟩ ⟨Nat.le_of_ble_eq_true rfl, Nat.le_of_ble_eq_true rfl⟩ (n' := 108) (k' := 8229) rfl rfl (fun x21 hf => ?_)
  refine pz_aast (T := TX3) (N := 10) hC dX9_init_98 (fun _ => rfl) (by decide) rfl hf (fun f22 hf => ?_)
  refine pz_iinc (v := (3 : Int32)) hC dX9_init_99 0 rfl (by decide) (by decide) rfl ?_
  refine pz_goto hC dX9_init_102 ?_
  refine pz_iload_n hC dX9_init_80 0 rfl ?_
  refine pz_bipush (v := (12 : Int32)) hC dX9_init_81 (by decide) ?_
  refine pz_icmp_geF hC dX9_init_83 (by decide) ?_
  refine pz_aload_n hC dX9_init_86 1 rfl ?_
  refine pz_getR hC dX9_init_87 fa_X9_23 hf (fun v23 hf => ?_)
  refine pz_iload_n hC dX9_init_90 0 rfl ?_
  refine pz_new (ci := 2) (fs := [.int 0, .int 0, .int 0, .null, .null, .int 0, .int 0, .null, .int 0, .null]) (ty := tyX3) (T := TX3) (n' := 109) (k' := 8239) hC hK dX9_init_91 rfl pz_wsX3 tyX3_ok (List.mem_of_getElem? (i := 149) (by decide +kernel)) (List.mem_of_getElem? (i := 150) (by decide +kernel)) (List.mem_of_getElem? (i := 121) (by decide +kernel)) (by decide +kernel) rfl rfl ⟨Nat.le_of_ble_eq_true rfl, Nat.le_of_ble_eq_true rfl⟩ ?_
  refine pz_dup hC dX9_init_94 rfl ?_
  refine pz_Iv (As := []) hC hK dX9_init_95 py_X3_init pi_X3_init lk_X9_15 hf (fun _ h => mX3_init h) rfl rfl (Nat.le_of_ble_eq_true rfl) ⟨by decide, by decide⟩ ⟨Nat.le_of_ble_eq_true rfl, Nat.le_of_ble_eq_true rfl⟩ (n' := 127) (k' := 8339) rfl rfl (fun x24 hf => ?_)
  refine pz_aast (T := TX3) (N := 10) hC dX9_init_98 (fun _ => rfl) (by decide) rfl hf (fun f25 hf => ?_)
  refine pz_iinc (v := (4 : Int32)) hC dX9_init_99 0 rfl (by decide) (by decide) rfl ?_
  refine pz_goto hC dX9_init_102 ?_
  refine pz_iload_n hC dX9_init_80 0 rfl ?_
  refine pz_bipush (v := (12 : Int32)) hC dX9_init_81 (by decide) ?_
  refine pz_icmp_geF hC dX9_init_83 (by decide) ?_
  refine pz_aload_n hC dX9_init_86 1 rfl ?_
  refine pz_getR hC dX9_init_87 fa_X9_23 hf (fun v26 hf => ?_)
  refine pz_iload_n hC dX9_init_90 0 rfl ?_
  refine pz_new (ci := 2) (fs := [.int 0, .int 0, .int 0, .null, .null, .int 0, .int 0, .null, .int 0, .null]) (ty := tyX3) (T := TX3) (n' := 128) (k' := 8349) hC hK dX9_init_91 rfl pz_wsX3 tyX3_ok (List.mem_of_getElem? (i := 149) (by decide +kernel)) (List.mem_of_getElem? (i := 150) (by decide +kernel)) (List.mem_of_getElem? (i := 121) (by decide +kernel)) (by decide +kernel) rfl rfl ⟨Nat.le_of_ble_eq_true rfl, Nat.le_of_ble_eq_true rfl⟩ ?_
  refine pz_dup hC dX9_init_94 rfl ?_
  refine pz_Iv (As := []) hC hK dX9_init_95 py_X3_init pi_X3_init lk_X9_15 hf (fun _ h => mX3_init h) rfl rfl (Nat.le_of_ble_eq_true rfl) ⟨by decide, by decide⟩ ⟨Nat.le_of_ble_eq_true rfl, Nat.le_of_ble_eq_true rfl⟩ (n' := 146) (k' := 8449) rfl rfl (fun x27 hf => ?_)
  refine pz_aast (T := TX3) (N := 10) hC dX9_init_98 (fun _ => rfl) (by decide) rfl hf (fun f28 hf => ?_)
  refine pz_iinc (v := (5 : Int32)) hC dX9_init_99 0 rfl (by decide) (by decide) rfl ?_
  refine pz_goto hC dX9_init_102 ?_
  refine pz_iload_n hC dX9_init_80 0 rfl ?_
  refine pz_bipush (v := (12 : Int32)) hC dX9_init_81 (by decide) ?_
  refine pz_icmp_geF hC dX9_init_83 (by decide) ?_
  refine pz_aload_n hC dX9_init_86 1 rfl ?_
  refine pz_getR hC dX9_init_87 fa_X9_23 hf (fun v29 hf => ?_)
  refine pz_iload_n hC dX9_init_90 0 rfl ?_
  refine pz_new (ci := 2) (fs := [.int 0, .int 0, .int 0, .null, .null, .int 0, .int 0, .null, .int 0, .null]) (ty := tyX3) (T := TX3) (n' := 147) (k' := 8459) hC hK dX9_init_91 rfl pz_wsX3 tyX3_ok (List.mem_of_getElem? (i := 149) (by decide +kernel)) (List.mem_of_getElem? (i := 150) (by decide +kernel)) (List.mem_of_getElem? (i := 121) (by decide +kernel)) (by decide +kernel) rfl rfl ⟨Nat.le_of_ble_eq_true rfl, Nat.le_of_ble_eq_true rfl⟩ ?_
  refine pz_dup hC dX9_init_94 rfl ?_
  refine pz_Iv (As := []) hC hK dX9_init_95 py_X3_init pi_X3_init lk_X9_15 hf (fun _ h => mX3_init h) rfl rfl (Nat.le_of_ble_eq_true rfl) ⟨by decide, by decide⟩ ⟨Nat.le_of_ble_eq_true rfl, Nat.le_of_ble_eq_true rfl⟩ (n' := 165) (k' := 8559) rfl rfl (fun x30 hf => ?_)
  refine pz_aast (T := TX3) (N := 10) hC dX9_init_98 (fun _ => rfl) (by decide) rfl hf (fun f31 hf => ?_)
  refine pz_iinc (v := (6 : Int32)) hC dX9_init_99 0 rfl (by decide) (by decide) rfl ?_
  refine pz_goto hC dX9_init_102 ?_
  refine pz_iload_n hC dX9_init_80 0 rfl ?_
  refine pz_bipush (v := (12 : Int32)) hC dX9_init_81 (by decide) ?_
  refine pz_icmp_geF hC dX9_init_83 (by decide) ?_
  refine pz_aload_n hC dX9_init_86 1 rfl ?_
  refine pz_getR hC dX9_init_87 fa_X9_23 hf (fun v32 hf => ?_)
  refine pz_iload_n hC dX9_init_90 0 rfl ?_
  refine pz_new (ci := 2) (fs := [.int 0, .int 0, .int 0, .null, .null, .int 0, .int 0, .null, .int 0, .null]) (ty := tyX3) (T := TX3) (n' := 166) (k' := 8569) hC hK dX9_init_91 rfl pz_wsX3 tyX3_ok (List.mem_of_getElem? (i := 149) (by decide +kernel)) (List.mem_of_getElem? (i := 150) (by decide +kernel)) (List.mem_of_getElem? (i := 121) (by decide +kernel)) (by decide +kernel) rfl rfl ⟨Nat.le_of_ble_eq_true rfl, Nat.le_of_ble_eq_true rfl⟩ ?_
  refine pz_dup hC dX9_init_94 rfl ?_
  refine pz_Iv (As := []) hC hK dX9_init_95 py_X3_init pi_X3_init lk_X9_15 hf (fun _ h => mX3_init h) rfl rfl (Nat.le_of_ble_eq_true rfl) ⟨by decide, by decide⟩ ⟨Nat.le_of_ble_eq_true rfl, Nat.le_of_ble_eq_true rfl⟩ (n' := 184) (k' := 8669) rfl rfl (fun x33 hf => ?_)
  refine pz_aast (T := TX3) (N := 10) hC dX9_init_98 (fun _ => rfl) (by decide) rfl hf (fun f34 hf => ?_)
  refine pz_iinc (v := (7 : Int32)) hC dX9_init_99 0 rfl (by decide) (by decide) rfl ?_
  refine pz_goto hC dX9_init_102 ?_
  refine pz_iload_n hC dX9_init_80 0 rfl ?_
  refine pz_bipush (v := (12 : Int32)) hC dX9_init_81 (by decide) ?_
  refine pz_icmp_geF hC dX9_init_83 (by decide) ?_
  refine pz_aload_n hC dX9_init_86 1 rfl ?_
  refine pz_getR hC dX9_init_87 fa_X9_23 hf (fun v35 hf => ?_)
  refine pz_iload_n hC dX9_init_90 0 rfl ?_
  refine pz_new (ci := 2) (fs := [.int 0, .int 0, .int 0, .null, .null, .int 0, .int 0, .null, .int 0, .null]) (ty := tyX3) (T := TX3) (n' := 185) (k' := 8679) hC hK dX9_init_91 rfl pz_wsX3 tyX3_ok (List.mem_of_getElem? (i := 149) (by decide +kernel)) (List.mem_of_getElem? (i := 150) (by decide +kernel)) (List.mem_of_getElem? (i := 121) (by decide +kernel)) (by decide +kernel) rfl rfl ⟨Nat.le_of_ble_eq_true rfl, Nat.le_of_ble_eq_true rfl⟩ ?_
  refine pz_dup hC dX9_init_94 rfl ?_
  refine pz_Iv (As := []) hC hK dX9_init_95 py_X3_init pi_X3_init lk_X9_15 hf (fun _ h => mX3_init h) rfl rfl (Nat.le_of_ble_eq_true rfl) ⟨by decide, by decide⟩ ⟨Nat.le_of_ble_eq_true rfl, Nat.le_of_ble_eq_true rfl⟩ (n' := 203) (k' := 8779) rfl rfl (fun x36 hf => ?_)
  refine pz_aast (T := TX3) (N := 10) hC dX9_init_98 (fun _ => rfl) (by decide) rfl hf (fun f37 hf => ?_)
  refine pz_iinc (v := (8 : Int32)) hC dX9_init_99 0 rfl (by decide) (by decide) rfl ?_
  refine pz_goto hC dX9_init_102 ?_
  refine pz_iload_n hC dX9_init_80 0 rfl ?_
  refine pz_bipush (v := (12 : Int32)) hC dX9_init_81 (by decide) ?_
  refine pz_icmp_geF hC dX9_init_83 (by decide) ?_
  refine pz_aload_n hC dX9_init_86 1 rfl ?_
  refine pz_getR hC dX9_init_87 fa_X9_23 hf (fun v38 hf => ?_)
  refine pz_iload_n hC dX9_init_90 0 rfl ?_
  refine pz_new (ci := 2) (fs := [.int 0, .int 0, .int 0, .null, .null, .int 0, .int 0, .null, .int 0, .null]) (ty := tyX3) (T := TX3) (n' := 204) (k' := 8789) hC hK dX9_init_91 rfl pz_wsX3 tyX3_ok (List.mem_of_getElem? (i := 149) (by decide +kernel)) (List.mem_of_getElem? (i := 150) (by decide +kernel)) (List.mem_of_getElem? (i := 121) (by decide +kernel)) (by decide +kernel) rfl rfl ⟨Nat.le_of_ble_eq_true rfl, Nat.le_of_ble_eq_true rfl⟩ ?_
  refine pz_dup hC dX9_init_94 rfl ?_
  refine pz_Iv (As := []) hC hK dX9_init_95 py_X3_init pi_X3_init lk_X9_15 hf (fun _ h => mX3_init h) rfl rfl (Nat.le_of_ble_eq_true rfl) ⟨by decide, by decide⟩ ⟨Nat.le_of_ble_eq_true rfl, Nat.le_of_ble_eq_true rfl⟩ (n' := 222) (k' := 8889) rfl rfl (fun x39 hf => ?_)
  refine pz_aast (T := TX3) (N := 10) hC dX9_init_98 (fun _ => rfl) (by decide) rfl hf (fun f40 hf => ?_)
  refine pz_iinc (v := (9 : Int32)) hC dX9_init_99 0 rfl (by decide) (by decide) rfl ?_
  refine pz_goto hC dX9_init_102 ?_
  refine pz_iload_n hC dX9_init_80 0 rfl ?_
  refine pz_bipush (v := (12 : Int32)) hC dX9_init_81 (by decide) ?_
  refine pz_icmp_geF hC dX9_init_83 (by decide) ?_
  refine pz_aload_n hC dX9_init_86 1 rfl ?_
  refine pz_getR hC dX9_init_87 fa_X9_23 hf (fun v41 hf => ?_)
  refine pz_iload_n hC dX9_init_90 0 rfl ?_
  refine pz_new (ci := 2) (fs := [.int 0, .int 0, .int 0, .null, .null, .int 0, .int 0, .null, .int 0, .null]) (ty := tyX3) (T := TX3) (n' := 223) (k' := 8899) hC hK dX9_init_91 rfl pz_wsX3 tyX3_ok (List.mem_of_getElem? (i := 149) (by decide +kernel)) (List.mem_of_getElem? (i := 150) (by decide +kernel)) (List.mem_of_getElem? (i := 121) (by decide +kernel)) (by decide +kernel) rfl rfl ⟨Nat.le_of_ble_eq_true rfl, Nat.le_of_ble_eq_true rfl⟩ ?_
  refine pz_dup hC dX9_init_94 rfl ?_
  refine pz_Iv (As := []) hC hK dX9_init_95 py_X3_init pi_X3_init lk_X9_15 hf (fun _ h => mX3_init h) rfl rfl (Nat.le_of_ble_eq_true rfl) ⟨by decide, by decide⟩ ⟨Nat.le_of_ble_eq_true rfl, Nat.le_of_ble_eq_true rfl⟩ (n' := 241) (k' := 8999) rfl rfl (fun x42 hf => ?_)
  refine pz_aast (T := TX3) (N := 10) hC dX9_init_98 (fun _ => rfl) (by decide) rfl hf (fun f43 hf => ?_)
  refine pz_iinc (v := (10 : Int32)) hC dX9_init_99 0 rfl (by decide) (by decide) rfl ?_
  refine pz_goto hC dX9_init_102 ?_
  refine pz_iload_n hC dX9_init_80 0 rfl ?_
  refine pz_bipush (v := (12 : Int32)) hC dX9_init_81 (by decide) ?_
  refine pz_icmp_geF hC dX9_init_83 (by decide) ?_
  refine pz_aload_n hC dX9_init_86 1 rfl ?_
  refine pz_getR hC dX9_init_87 fa_X9_23 hf (fun v44 hf => ?_)
  refine pz_iload_n hC dX9_init_90 0 rfl ?_
  refine pz_new (ci := 2) (fs := [.int 0, .int 0, .int 0, .null, .null, .int 0, .int 0, .null, .int 0, .null]) (ty := tyX3) (T := TX3) (n' := 242) (k' := 9009) hC hK dX9_init_91 rfl pz_wsX3 tyX3_ok (List.mem_of_getElem? (i := 149) (by decide +kernel)) (List.mem_of_getElem? (i := 150) (by decide +kernel)) (List.mem_of_getElem? (i := 121) (by decide +kernel)) (by decide +kernel) rfl rfl ⟨Nat.le_of_ble_eq_true rfl, Nat.le_of_ble_eq_true rfl⟩ ?_
  refine pz_dup hC dX9_init_94 rfl ?_
  refine pz_Iv (As := []) hC hK dX9_init_95 py_X3_init pi_X3_init lk_X9_15 hf (fun _ h => mX3_init h) rfl rfl (Nat.le_of_ble_eq_true rfl) ⟨by decide, by decide⟩ ⟨Nat.le_of_ble_eq_true rfl, Nat.le_of_ble_eq_true rfl⟩ (n' := 260) (k' := 9109) rfl rfl (fun x45 hf => ?_)
  refine pz_aast (T := TX3) (N := 10) hC dX9_init_98 (fun _ => rfl) (by decide) rfl hf (fun f46 hf => ?_)
  refine pz_iinc (v := (11 : Int32)) hC dX9_init_99 0 rfl (by decide) (by decide) rfl ?_
  refine pz_goto hC dX9_init_102 ?_
  refine pz_iload_n hC dX9_init_80 0 rfl ?_
  refine pz_bipush (v := (12 : Int32)) hC dX9_init_81 (by decide) ?_
  refine pz_icmp_geF hC dX9_init_83 (by decide) ?_
  refine pz_aload_n hC dX9_init_86 1 rfl ?_
  refine pz_getR hC dX9_init_87 fa_X9_23 hf (fun v47 hf => ?_)
  refine pz_iload_n hC dX9_init_90 0 rfl ?_
  refine pz_new (ci := 2) (fs := [.int 0, .int 0, .int 0, .null, .null, .int 0, .int 0, .null, .int 0, .null]) (ty := tyX3) (T := TX3) (n' := 261) (k' := 9119) hC hK dX9_init_91 rfl pz_wsX3 tyX3_ok (List.mem_of_getElem? (i := 149) (by decide +kernel)) (List.mem_of_getElem? (i := 150) (by decide +kernel)) (List.mem_of_getElem? (i := 121) (by decide +kernel)) (by decide +kernel) rfl rfl ⟨Nat.le_of_ble_eq_true rfl, Nat.le_of_ble_eq_true rfl⟩ ?_
  refine pz_dup hC dX9_init_94 rfl ?_
  refine pz_Iv (As := []) hC hK dX9_init_95 py_X3_init pi_X3_init lk_X9_15 hf (fun _ h => mX3_init h) rfl rfl (Nat.le_of_ble_eq_true rfl) ⟨by decide, by decide⟩ ⟨Nat.le_of_ble_eq_true rfl, Nat.le_of_ble_eq_true rfl⟩ (n' := 279) (k' := 9219) rfl rfl (fun x48 hf => ?_)
  refine pz_aast (T := TX3) (N := 10) hC dX9_init_98 (fun _ => rfl) (by decide) rfl hf (fun f49 hf => ?_)
  refine pz_iinc (v := (12 : Int32)) hC dX9_init_99 0 rfl (by decide) (by decide) rfl ?_
  refine pz_goto hC dX9_init_102 ?_
  refine pz_iload_n hC dX9_init_80 0 rfl ?_
  refine pz_bipush (v := (12 : Int32)) hC dX9_init_81 (by decide) ?_
  refine pz_icmp_geT hC dX9_init_83 (by decide) ?_
  exact pz_vret hC hK dX9_init_105 hf
def fnX9_feed (f : pz_H) (a0 : Nat) (p1 : Int32) (p2 : Int32) (p3 : Int32) (p4 : Int32) (p5 : Int32) : Option (Int32 × pz_H) :=
  (pz_is f a0 8).bind fun _ =>
  (pz_gR f a0 8 5).bind fun v1 =>
  (pz_gI f v1 3 1).bind fun v2 =>
  if (v2 + (20 : Int32)) ≤ (400 : Int32) then (pz_gR f a0 8 5).bind fun v3 =>
  (fnX4_append f v3 p1).bind fun x4 =>
  (pz_gR x4 a0 8 5).bind fun v5 =>
  (fnX4_append x4 v5 p2).bind fun x6 =>
  (pz_gR x6 a0 8 5).bind fun v7 =>
  (fnX4_append x6 v7 p3).bind fun x8 =>
  (pz_gR x8 a0 8 5).bind fun v9 =>
  (fnX4_append x8 v9 p4).bind fun x10 =>
  (pz_gR x10 a0 8 5).bind fun v11 =>
  (fnX4_append x10 v11 p5).bind fun x12 =>
  (pz_gR x12 a0 8 5).bind fun v13 =>
  (pz_gI x12 v13 3 1).bind fun v14 =>
  some (v14, x12) else
  some (((-1) : Int32), f)
theorem mX9_feed {l : Launch} {G : pz_G} {f : pz_H} {a0 : Nat} {p1 : Int32} {p2 : Int32} {p3 : Int32} {p4 : Int32} {p5 : Int32} {r : (Int32 × pz_H)} (hf : fnX9_feed f a0 p1 p2 p3 p4 p5 = some r) : pz_Met l G yX9_feed cX9_feed 6 (some .int) 1 22 0 0 [.ref a0, .int p1, .int p2, .int p3, .int p4, .int p5] f (some (.int r.1)) r.2 ∧ pz_is f a0 8 = some () := by
  unfold fnX9_feed at hf
  obtain ⟨_, h0, hf⟩ := pz_bd hf
  refine ⟨pz_enter (by decide +kernel) (Nat.le_of_ble_eq_true rfl) (fun C hl hC hK hnm => ?_), h0⟩
  subst hl
  refine pz_sub (lv' := [(0, .ref a0), (1, .int p1), (2, .int p2), (3, .int p3), (4, .int p4), (5, .int p5)]) [0, 1, 2, 3, 4, 5] rfl ?_
  refine pz_aload_n hC dX9_feed_0 0 rfl ?_
  refine pz_getR hC dX9_feed_1 fa_X9_33 hf (fun v1 hf => ?_)
  refine pz_getI hC dX9_feed_4 fa_X9_51 hf (fun v2 hf => ?_)
  refine pz_bipush (v := (20 : Int32)) hC dX9_feed_7 (by decide) ?_
  refine pz_iadd hC dX9_feed_9 ?_
  refine pz_sipush (v := (400 : Int32)) hC dX9_feed_10 (by decide) ?_
  refine pz_icmp_le hC dX9_feed_13 hf (fun _ hf => ?_) (fun _ hf => ?_)
  · refine pz_aload_n hC dX9_feed_18 0 rfl ?_
    refine pz_getR hC dX9_feed_19 fa_X9_33 hf (fun v3 hf => ?_)
    refine pz_iload_n hC dX9_feed_22 1 rfl ?_
    refine pz_Vv (As := [.int p1]) hC hK dX9_feed_23 py_X4_append pv_X4_append lk_X9_54 hf (fun _ h => mX4_append h) rfl rfl (Nat.le_of_ble_eq_true rfl) ⟨by decide, by decide⟩ ⟨Nat.le_of_ble_eq_true rfl, Nat.le_of_ble_eq_true rfl⟩ (fun x4 hf => ?_)
    refine pz_aload_n hC dX9_feed_26 0 rfl ?_
    refine pz_getR hC dX9_feed_27 fa_X9_33 hf (fun v5 hf => ?_)
    refine pz_iload_n hC dX9_feed_30 2 rfl ?_
    refine pz_Vv (As := [.int p2]) hC hK dX9_feed_31 py_X4_append pv_X4_append lk_X9_54 hf (fun _ h => mX4_append h) rfl rfl (Nat.le_of_ble_eq_true rfl) ⟨by decide, by decide⟩ ⟨Nat.le_of_ble_eq_true rfl, Nat.le_of_ble_eq_true rfl⟩ (fun x6 hf => ?_)
    refine pz_aload_n hC dX9_feed_34 0 rfl ?_
    refine pz_getR hC dX9_feed_35 fa_X9_33 hf (fun v7 hf => ?_)
    refine pz_iload_n hC dX9_feed_38 3 rfl ?_
    refine pz_Vv (As := [.int p3]) hC hK dX9_feed_39 py_X4_append pv_X4_append lk_X9_54 hf (fun _ h => mX4_append h) rfl rfl (Nat.le_of_ble_eq_true rfl) ⟨by decide, by decide⟩ ⟨Nat.le_of_ble_eq_true rfl, Nat.le_of_ble_eq_true rfl⟩ (fun x8 hf => ?_)
    refine pz_aload_n hC dX9_feed_42 0 rfl ?_
    refine pz_getR hC dX9_feed_43 fa_X9_33 hf (fun v9 hf => ?_)
    refine pz_iload hC dX9_feed_46 4 rfl ?_
    refine pz_Vv (As := [.int p4]) hC hK dX9_feed_48 py_X4_append pv_X4_append lk_X9_54 hf (fun _ h => mX4_append h) rfl rfl (Nat.le_of_ble_eq_true rfl) ⟨by decide, by decide⟩ ⟨Nat.le_of_ble_eq_true rfl, Nat.le_of_ble_eq_true rfl⟩ (fun x10 hf => ?_)
    refine pz_aload_n hC dX9_feed_51 0 rfl ?_
    refine pz_getR hC dX9_feed_52 fa_X9_33 hf (fun v11 hf => ?_)
    refine pz_iload hC dX9_feed_55 5 rfl ?_
    refine pz_Vv (As := [.int p5]) hC hK dX9_feed_57 py_X4_append pv_X4_append lk_X9_54 hf (fun _ h => mX4_append h) rfl rfl (Nat.le_of_ble_eq_true rfl) ⟨by decide, by decide⟩ ⟨Nat.le_of_ble_eq_true rfl, Nat.le_of_ble_eq_true rfl⟩ (fun x12 hf => ?_)
    refine pz_aload_n hC dX9_feed_60 0 rfl ?_
    refine pz_getR hC dX9_feed_61 fa_X9_33 hf (fun v13 hf => ?_)
    refine pz_getI hC dX9_feed_64 fa_X9_51 hf (fun v14 hf => ?_)
    exact pz_iretw hC hK dX9_feed_67 hf
  · refine pz_iconst (v := ((-1) : Int32)) hC dX9_feed_16 (by decide) ?_
    exact pz_iretw hC hK dX9_feed_17 hf
def fX9_end_15 (f : pz_H) : Option (Int32 × pz_H) :=
  (pz_b ((0 : Int32))).bind fun x => some (x, f)
theorem tX9_end_15 {G : pz_G} {C : pz_C} {f : pz_H} {r : (Int32 × pz_H)} (hC : pz_OK G C cX9_end 2 RX9) (hK : pz_K C (some .boolean) 0 0 0 0) (hf : fX9_end_15 f = some r) : pz_W G C 2 15 [] [] f 0 0 (pz_Q G C (some (.int r.1)) r.2 0 0) := by
  unfold fX9_end_15 at hf
  refine pz_iconst (v := (0 : Int32)) hC dX9_end_15 (by decide) ?_
  exact pz_zretw hC hK dX9_end_16 hf
def fnX9_end (f : pz_H) (a0 : Nat) (p1 : Int32) : Option (Int32 × pz_H) :=
  (pz_is f a0 8).bind fun _ =>
  if p1 < 0 then fX9_end_15 f else
  (pz_gR f a0 8 5).bind fun v1 =>
  (pz_gI f v1 3 1).bind fun v2 =>
  if p1 ≤ v2 then (pz_gR f a0 8 5).bind fun v3 =>
  (pz_sV f v3 3 1 (.int p1)).bind fun f4 =>
  (pz_b ((1 : Int32))).bind fun x => some (x, f4) else
  fX9_end_15 f
theorem mX9_end {l : Launch} {G : pz_G} {f : pz_H} {a0 : Nat} {p1 : Int32} {r : (Int32 × pz_H)} (hf : fnX9_end f a0 p1 = some r) : pz_Met l G yX9_end cX9_end 2 (some .boolean) 0 0 0 0 [.ref a0, .int p1] f (some (.int r.1)) r.2 ∧ pz_is f a0 8 = some () := by
  unfold fnX9_end at hf
  obtain ⟨_, h0, hf⟩ := pz_bd hf
  refine ⟨pz_enter (by decide +kernel) (Nat.le_of_ble_eq_true rfl) (fun C hl hC hK hnm => ?_), h0⟩
  subst hl
  refine pz_sub (lv' := [(0, .ref a0), (1, .int p1)]) [0, 1] rfl ?_
  refine pz_iload_n hC dX9_end_0 1 rfl ?_
  refine pz_if_lt hC dX9_end_1 hf (fun _ hf => ?_) (fun _ hf => ?_)
  · refine pz_sub [] rfl ?_
    exact tX9_end_15 hC hK hf
  · refine pz_iload_n hC dX9_end_4 1 rfl ?_
    refine pz_aload_n hC dX9_end_5 0 rfl ?_
    refine pz_getR hC dX9_end_6 fa_X9_33 hf (fun v1 hf => ?_)
    refine pz_getI hC dX9_end_9 fa_X9_51 hf (fun v2 hf => ?_)
    refine pz_icmp_le hC dX9_end_12 hf (fun _ hf => ?_) (fun _ hf => ?_)
    · refine pz_aload_n hC dX9_end_17 0 rfl ?_
      refine pz_getR hC dX9_end_18 fa_X9_33 hf (fun v3 hf => ?_)
      refine pz_iload_n hC dX9_end_21 1 rfl ?_
      refine pz_putV hC dX9_end_22 fp_X9_51 rfl rfl hf (fun f4 hf => ?_)
      refine pz_iconst (v := (1 : Int32)) hC dX9_end_25 (by decide) ?_
      exact pz_zretw hC hK dX9_end_26 hf
    · refine pz_sub [] rfl ?_
      exact tX9_end_15 hC hK hf
def fX9_keepPast_62 (f : pz_H) (l0 : Nat) : Option pz_H :=
  (pz_gR f l0 8 3).bind fun v1 =>
  (pz_gI f l0 8 4).bind fun v2 =>
  (pz_aR f v1 5 v2).bind fun v3 =>
  (pz_gR f l0 8 1).bind fun v4 =>
  (fnX3_copyFrom f v3 v4).bind fun x5 =>
  (pz_gI x5 l0 8 4).bind fun v6 =>
  (pz_sV x5 l0 8 4 (.int (v6 + (1 : Int32)))).bind fun f7 =>
  some f7
theorem tX9_keepPast_62 {G : pz_G} {C : pz_C} {f : pz_H} {l0 : Nat} {r : pz_H} (hC : pz_OK G C cX9_keepPast 3 RX9) (hK : pz_K C none 2 44 0 0) (hf : fX9_keepPast_62 f l0 = some r) : pz_W G C 3 62 [(0, .ref l0)] [] f 0 0 (pz_Q G C none r 0 0) := by
  unfold fX9_keepPast_62 at hf
  refine pz_aload_n hC dX9_keepPast_62 0 rfl ?_
  refine pz_getR hC dX9_keepPast_63 fa_X9_23 hf (fun v1 hf => ?_)
  refine pz_aload_n hC dX9_keepPast_66 0 rfl ?_
  refine pz_getI hC dX9_keepPast_67 fa_X9_27 hf (fun v2 hf => ?_)
  refine pz_aald hC dX9_keepPast_70 (fun _ => rfl) (by decide) hf (fun v3 hf => ?_)
  refine pz_aload_n hC dX9_keepPast_71 0 rfl ?_
  refine pz_getR hC dX9_keepPast_72 fa_X9_16 hf (fun v4 hf => ?_)
  refine pz_Vv (As := [.ref v4]) hC hK dX9_keepPast_75 py_X3_copyFrom pv_X3_copyFrom lk_X9_58 hf (fun _ h => mX3_copyFrom h) rfl rfl (Nat.le_of_ble_eq_true rfl) ⟨by decide, by decide⟩ ⟨Nat.le_of_ble_eq_true rfl, Nat.le_of_ble_eq_true rfl⟩ (fun x5 hf => ?_)
  refine pz_aload_n hC dX9_keepPast_78 0 rfl ?_
  refine pz_dup hC dX9_keepPast_79 rfl ?_
  refine pz_getI hC dX9_keepPast_80 fa_X9_27 hf (fun v6 hf => ?_)
  refine pz_iconst (v := (1 : Int32)) hC dX9_keepPast_83 (by decide) ?_
  refine pz_iadd hC dX9_keepPast_84 ?_
  refine pz_putV hC dX9_keepPast_85 fp_X9_27 rfl rfl hf (fun f7 hf => ?_)
  exact pz_vret hC hK dX9_keepPast_88 hf
def fX9_keepPast_18b (k18 : pz_H → Nat → Nat → Int32 → Option pz_H) (f : pz_H) (l0 : Nat) (l1 : Nat) (l2 : Int32) : Option pz_H :=
  if (12 : Int32) ≤ l2 then (pz_gR f l0 8 3).bind fun v1 =>
  (pz_tR f v1 5 2 ((11 : Int32)) l1).bind fun f2 =>
  (pz_gI f2 l0 8 4).bind fun v3 =>
  (pz_sV f2 l0 8 4 (.int (v3 - (1 : Int32)))).bind fun f4 =>
  fX9_keepPast_62 f4 l0 else
  (pz_gR f l0 8 3).bind fun v5 =>
  (pz_gR f l0 8 3).bind fun v6 =>
  (pz_aR f v6 5 l2).bind fun v7 =>
  (pz_tR f v5 5 2 ((l2 - (1 : Int32))) v7).bind fun f8 =>
  k18 f8 l0 l1 ((l2 + 1))
theorem tX9_keepPast_18b {G : pz_G} {C : pz_C} {f : pz_H} {k18 : pz_H → Nat → Nat → Int32 → Option pz_H} {l0 : Nat} {l1 : Nat} {l2 : Int32} {r : pz_H} (hC : pz_OK G C cX9_keepPast 3 RX9) (hK : pz_K C none 2 44 0 0) (hk18 : ∀ (g : pz_H) (a0 : Nat) (a1 : Nat) (a2 : Int32), k18 g a0 a1 a2 = some r → pz_W G C 3 18 [(0, .ref a0), (1, .ref a1), (2, .int a2)] [] g 0 0 (pz_Q G C none r 0 0)) (hf : fX9_keepPast_18b k18 f l0 l1 l2 = some r) : pz_W G C 3 18 [(0, .ref l0), (1, .ref l1), (2, .int l2)] [] f 0 0 (pz_Q G C none r 0 0) := by
  unfold fX9_keepPast_18b at hf
  refine pz_iload_n hC dX9_keepPast_18 2 rfl ?_
  refine pz_bipush (v := (12 : Int32)) hC dX9_keepPast_19 (by decide) ?_
  refine pz_icmp_ge hC dX9_keepPast_21 hf (fun _ hf => ?_) (fun _ hf => ?_)
  · refine pz_aload_n hC dX9_keepPast_44 0 rfl ?_
    refine pz_getR hC dX9_keepPast_45 fa_X9_23 hf (fun v1 hf => ?_)
    refine pz_bipush (v := (11 : Int32)) hC dX9_keepPast_48 (by decide) ?_
    refine pz_aload_n hC dX9_keepPast_50 1 rfl ?_
    refine pz_aast (T := TX3) (N := 10) hC dX9_keepPast_51 (fun _ => rfl) (by decide) rfl hf (fun f2 hf => ?_)
    refine pz_aload_n hC dX9_keepPast_52 0 rfl ?_
    refine pz_dup hC dX9_keepPast_53 rfl ?_
    refine pz_getI hC dX9_keepPast_54 fa_X9_27 hf (fun v3 hf => ?_)
    refine pz_iconst (v := (1 : Int32)) hC dX9_keepPast_57 (by decide) ?_
    refine pz_isub hC dX9_keepPast_58 ?_
    refine pz_putV hC dX9_keepPast_59 fp_X9_27 rfl rfl hf (fun f4 hf => ?_)
    refine pz_sub [0] rfl ?_
    exact tX9_keepPast_62 hC hK hf
  · refine pz_aload_n hC dX9_keepPast_24 0 rfl ?_
    refine pz_getR hC dX9_keepPast_25 fa_X9_23 hf (fun v5 hf => ?_)
    refine pz_iload_n hC dX9_keepPast_28 2 rfl ?_
    refine pz_iconst (v := (1 : Int32)) hC dX9_keepPast_29 (by decide) ?_
    refine pz_isub hC dX9_keepPast_30 ?_
    refine pz_aload_n hC dX9_keepPast_31 0 rfl ?_
    refine pz_getR hC dX9_keepPast_32 fa_X9_23 hf (fun v6 hf => ?_)
    refine pz_iload_n hC dX9_keepPast_35 2 rfl ?_
    refine pz_aald hC dX9_keepPast_36 (fun _ => rfl) (by decide) hf (fun v7 hf => ?_)
    refine pz_aast (T := TX3) (N := 10) hC dX9_keepPast_37 (fun _ => rfl) (by decide) rfl hf (fun f8 hf => ?_)
    refine pz_iinc (v := (l2 + 1)) hC dX9_keepPast_38 2 rfl rfl (by decide) rfl ?_
    refine pz_goto hC dX9_keepPast_41 ?_
    refine pz_sub [1, 2, 0] rfl ?_
    exact hk18 _ _ _ _ hf
def fX9_keepPast_18 : Nat → pz_H → Nat → Nat → Int32 → Option pz_H
  | 0, _, _, _, _ => none
  | n + 1, f, l0, l1, l2 => fX9_keepPast_18b (fX9_keepPast_18 n) f l0 l1 l2
theorem tX9_keepPast_18 {G : pz_G} {C : pz_C} {r : pz_H} (hC : pz_OK G C cX9_keepPast 3 RX9) (hK : pz_K C none 2 44 0 0) : ∀ (N : Nat) (f : pz_H) (l0 : Nat) (l1 : Nat) (l2 : Int32), fX9_keepPast_18 N f l0 l1 l2 = some r → pz_W G C 3 18 [(0, .ref l0), (1, .ref l1), (2, .int l2)] [] f 0 0 (pz_Q G C none r 0 0) := by
  intro N
  induction N with
  | zero => intro f l0 l1 l2 hf; cases hf
  | succ N ih => intro f l0 l1 l2 hf; exact tX9_keepPast_18b hC hK (fun f l0 l1 l2 hf => ih f l0 l1 l2 hf) hf
def fnX9_keepPast (f : pz_H) (a0 : Nat) : Option pz_H :=
  (pz_is f a0 8).bind fun _ =>
  (pz_gI f a0 8 4).bind fun v1 =>
  if v1 = (12 : Int32) then (pz_gR f a0 8 3).bind fun v2 =>
  (pz_aR f v2 5 ((0 : Int32))).bind fun v3 =>
  fX9_keepPast_18 pz_F f a0 v3 ((1 : Int32)) else
  fX9_keepPast_62 f a0
theorem mX9_keepPast {l : Launch} {G : pz_G} {f : pz_H} {a0 : Nat} {r : pz_H} (hf : fnX9_keepPast f a0 = some r) : pz_Met l G yX9_keepPast cX9_keepPast 3 none 2 44 0 0 [.ref a0] f none r ∧ pz_is f a0 8 = some () := by
  unfold fnX9_keepPast at hf
  obtain ⟨_, h0, hf⟩ := pz_bd hf
  refine ⟨pz_enter (by decide +kernel) (Nat.le_of_ble_eq_true rfl) (fun C hl hC hK hnm => ?_), h0⟩
  subst hl
  refine pz_sub (lv' := [(0, .ref a0)]) [0] rfl ?_
  refine pz_aload_n hC dX9_keepPast_0 0 rfl ?_
  refine pz_getI hC dX9_keepPast_1 fa_X9_27 hf (fun v1 hf => ?_)
  refine pz_bipush (v := (12 : Int32)) hC dX9_keepPast_4 (by decide) ?_
  refine pz_icmp_ne hC dX9_keepPast_6 hf (fun _ hf => ?_) (fun _ hf => ?_)
  · exact tX9_keepPast_62 hC hK hf
  · refine pz_aload_n hC dX9_keepPast_9 0 rfl ?_
    refine pz_getR hC dX9_keepPast_10 fa_X9_23 hf (fun v2 hf => ?_)
    refine pz_iconst (v := (0 : Int32)) hC dX9_keepPast_13 (by decide) ?_
    refine pz_aald hC dX9_keepPast_14 (fun _ => rfl) (by decide) hf (fun v3 hf => ?_)
    refine pz_astore_n hC dX9_keepPast_15 (by decide) rfl ?_
    refine pz_iconst (v := (1 : Int32)) hC dX9_keepPast_16 (by decide) ?_
    refine pz_istore_n hC dX9_keepPast_17 (by decide) rfl ?_
    refine pz_sub [2, 1, 0] rfl ?_
    exact tX9_keepPast_18 hC hK _ _ _ _ _ hf
def fX9_tell_70 (f : pz_H) (l1 : Int32) : Option (Int32 × pz_H) :=
  some (l1, f)
theorem tX9_tell_70 {G : pz_G} {C : pz_C} {f : pz_H} {l1 : Int32} {r : (Int32 × pz_H)} (hC : pz_OK G C cX9_tell 2 RX9) (hK : pz_K C (some .int) 9 197 0 0) (hf : fX9_tell_70 f l1 = some r) : pz_W G C 2 70 [(1, .int l1)] [] f 0 0 (pz_Q G C (some (.int r.1)) r.2 0 0) := by
  unfold fX9_tell_70 at hf
  refine pz_iload_n hC dX9_tell_70 0 rfl ?_
  exact pz_iretw hC hK dX9_tell_71 hf
def fnX9_tell (f : pz_H) (a0 : Nat) : Option (Int32 × pz_H) :=
  (pz_is f a0 8).bind fun _ =>
  (pz_gR f a0 8 2).bind fun v1 =>
  (pz_gR f a0 8 1).bind fun v2 =>
  (fnX3_copyFrom f v1 v2).bind fun x3 =>
  (pz_gR x3 a0 8 5).bind fun v4 =>
  (pz_gR x3 a0 8 2).bind fun v5 =>
  (fnX4_readAll x3 v4 v5).bind fun x6 =>
  (pz_gR x6.2 a0 8 5).bind fun v7 =>
  (pz_sV x6.2 v7 3 1 (.int (0 : Int32))).bind fun f8 =>
  (pz_gR f8 a0 8 5).bind fun v9 =>
  (pz_gI f8 v9 3 7).bind fun v10 =>
  (pz_sV f8 a0 8 0 (.int v10)).bind fun f11 =>
  (pz_gI f11 a0 8 0).bind fun v12 =>
  if v12 = 0 then if x6.1 ≤ 0 then fX9_tell_70 f11 x6.1 else
  (fnX9_keepPast f11 a0).bind fun x13 =>
  (pz_gR x13 a0 8 1).bind fun v14 =>
  (pz_gR x13 a0 8 2).bind fun v15 =>
  (fnX3_copyFrom x13 v14 v15).bind fun x16 =>
  fX9_tell_70 x16 x6.1 else
  some (((-1) : Int32), f11)
theorem mX9_tell {l : Launch} {G : pz_G} {f : pz_H} {a0 : Nat} {r : (Int32 × pz_H)} (hf : fnX9_tell f a0 = some r) : pz_Met l G yX9_tell cX9_tell 2 (some .int) 9 197 0 0 [.ref a0] f (some (.int r.1)) r.2 ∧ pz_is f a0 8 = some () := by
  unfold fnX9_tell at hf
  obtain ⟨_, h0, hf⟩ := pz_bd hf
  refine ⟨pz_enter (by decide +kernel) (Nat.le_of_ble_eq_true rfl) (fun C hl hC hK hnm => ?_), h0⟩
  subst hl
  refine pz_sub (lv' := [(0, .ref a0)]) [0] rfl ?_
  refine pz_aload_n hC dX9_tell_0 0 rfl ?_
  refine pz_getR hC dX9_tell_1 fa_X9_20 hf (fun v1 hf => ?_)
  refine pz_aload_n hC dX9_tell_4 0 rfl ?_
  refine pz_getR hC dX9_tell_5 fa_X9_16 hf (fun v2 hf => ?_)
  refine pz_Vv (As := [.ref v2]) hC hK dX9_tell_8 py_X3_copyFrom pv_X3_copyFrom lk_X9_58 hf (fun _ h => mX3_copyFrom h) rfl rfl (Nat.le_of_ble_eq_true rfl) ⟨by decide, by decide⟩ ⟨Nat.le_of_ble_eq_true rfl, Nat.le_of_ble_eq_true rfl⟩ (fun x3 hf => ?_)
  refine pz_aload_n hC dX9_tell_11 0 rfl ?_
  refine pz_getR hC dX9_tell_12 fa_X9_33 hf (fun v4 hf => ?_)
  refine pz_aload_n hC dX9_tell_15 0 rfl ?_
  refine pz_getR hC dX9_tell_16 fa_X9_20 hf (fun v5 hf => ?_)
  refine pz_Viw (As := [.ref v5]) hC hK dX9_tell_19 py_X4_readAll pv_X4_readAll lk_X9_62 hf (fun _ h => mX4_readAll h) rfl rfl (Nat.le_of_ble_eq_true rfl) ⟨by decide, by decide⟩ ⟨Nat.le_of_ble_eq_true rfl, Nat.le_of_ble_eq_true rfl⟩ (fun x6 hf => ?_)
  refine pz_istore_n hC dX9_tell_22 (by decide) rfl ?_
  refine pz_aload_n hC dX9_tell_23 1 rfl ?_
  refine pz_getR hC dX9_tell_24 fa_X9_33 hf (fun v7 hf => ?_)
  refine pz_iconst (v := (0 : Int32)) hC dX9_tell_27 (by decide) ?_
  refine pz_putV hC dX9_tell_28 fp_X9_51 rfl rfl hf (fun f8 hf => ?_)
  refine pz_aload_n hC dX9_tell_31 1 rfl ?_
  refine pz_aload_n hC dX9_tell_32 1 rfl ?_
  refine pz_getR hC dX9_tell_33 fa_X9_33 hf (fun v9 hf => ?_)
  refine pz_getI hC dX9_tell_36 fa_X9_66 hf (fun v10 hf => ?_)
  refine pz_putV hC dX9_tell_39 fp_X9_7 rfl rfl hf (fun f11 hf => ?_)
  refine pz_aload_n hC dX9_tell_42 1 rfl ?_
  refine pz_getI hC dX9_tell_43 fa_X9_7 hf (fun v12 hf => ?_)
  refine pz_if_eq hC dX9_tell_46 hf (fun _ hf => ?_) (fun _ hf => ?_)
  · refine pz_iload_n hC dX9_tell_51 0 rfl ?_
    refine pz_if_le hC dX9_tell_52 hf (fun _ hf => ?_) (fun _ hf => ?_)
    · refine pz_sub [0] rfl ?_
      exact tX9_tell_70 hC hK hf
    · refine pz_aload_n hC dX9_tell_55 1 rfl ?_
      refine pz_Vv (As := []) hC hK dX9_tell_56 py_X9_keepPast pv_X9_keepPast lk_X9_69 hf (fun _ h => mX9_keepPast h) rfl rfl (Nat.le_of_ble_eq_true rfl) ⟨by decide, by decide⟩ ⟨Nat.le_of_ble_eq_true rfl, Nat.le_of_ble_eq_true rfl⟩ (fun x13 hf => ?_)
      refine pz_aload_n hC dX9_tell_59 1 rfl ?_
      refine pz_getR hC dX9_tell_60 fa_X9_16 hf (fun v14 hf => ?_)
      refine pz_aload_n hC dX9_tell_63 1 rfl ?_
      refine pz_getR hC dX9_tell_64 fa_X9_20 hf (fun v15 hf => ?_)
      refine pz_Vv (As := [.ref v15]) hC hK dX9_tell_67 py_X3_copyFrom pv_X3_copyFrom lk_X9_58 hf (fun _ h => mX3_copyFrom h) rfl rfl (Nat.le_of_ble_eq_true rfl) ⟨by decide, by decide⟩ ⟨Nat.le_of_ble_eq_true rfl, Nat.le_of_ble_eq_true rfl⟩ (fun x16 hf => ?_)
      refine pz_sub [0] rfl ?_
      exact tX9_tell_70 hC hK hf
  · refine pz_iconst (v := ((-1) : Int32)) hC dX9_tell_49 (by decide) ?_
    exact pz_iretw hC hK dX9_tell_50 hf
def fnX9_fault (f : pz_H) (a0 : Nat) : Option Int32 :=
  (pz_is f a0 8).bind fun _ =>
  (pz_gI f a0 8 0).bind fun v1 =>
  some v1
theorem mX9_fault {l : Launch} {G : pz_G} {f : pz_H} {a0 : Nat} {r : Int32} (hf : fnX9_fault f a0 = some r) : pz_Met l G yX9_fault cX9_fault 1 (some .int) 0 0 0 0 [.ref a0] f (some (.int r)) f ∧ pz_is f a0 8 = some () := by
  unfold fnX9_fault at hf
  obtain ⟨_, h0, hf⟩ := pz_bd hf
  refine ⟨pz_enter (by decide +kernel) (Nat.le_of_ble_eq_true rfl) (fun C hl hC hK hnm => ?_), h0⟩
  subst hl
  refine pz_sub (lv' := [(0, .ref a0)]) [0] rfl ?_
  refine pz_aload_n hC dX9_fault_0 0 rfl ?_
  refine pz_getI hC dX9_fault_1 fa_X9_7 hf (fun v1 hf => ?_)
  exact pz_iret hC hK dX9_fault_4 hf
def fX9_set_26 (f : pz_H) : Option (Int32 × pz_H) :=
  (pz_b ((0 : Int32))).bind fun x => some (x, f)
theorem tX9_set_26 {G : pz_G} {C : pz_C} {f : pz_H} {r : (Int32 × pz_H)} (hC : pz_OK G C cX9_set 4 RX9) (hK : pz_K C (some .boolean) 3 66 0 0) (hf : fX9_set_26 f = some r) : pz_W G C 4 26 [] [] f 0 0 (pz_Q G C (some (.int r.1)) r.2 0 0) := by
  unfold fX9_set_26 at hf
  refine pz_iconst (v := (0 : Int32)) hC dX9_set_26 (by decide) ?_
  exact pz_zretw hC hK dX9_set_27 hf
def fnX9_set (f : pz_H) (a0 : Nat) (p1 : Int32) (p2 : Int32) (p3 : Int32) : Option (Int32 × pz_H) :=
  (pz_is f a0 8).bind fun _ =>
  (pz_gR f a0 8 1).bind fun v1 =>
  (fnX3_canChange f v1 p1 p2 p3).bind fun x2 =>
  if x2 = 0 then fX9_set_26 f else
  (pz_gR f a0 8 1).bind fun v3 =>
  (fnX3_valueOf f v3 p1 p2).bind fun x4 =>
  if x4 = p3 then fX9_set_26 f else
  (fnX9_keepPast f a0).bind fun x5 =>
  (pz_gR x5 a0 8 1).bind fun v6 =>
  (fnX3_change x5 v6 p1 p2 p3).bind fun x7 =>
  (pz_b ((1 : Int32))).bind fun x => some (x, x7)
theorem mX9_set {l : Launch} {G : pz_G} {f : pz_H} {a0 : Nat} {p1 : Int32} {p2 : Int32} {p3 : Int32} {r : (Int32 × pz_H)} (hf : fnX9_set f a0 p1 p2 p3 = some r) : pz_Met l G yX9_set cX9_set 4 (some .boolean) 3 66 0 0 [.ref a0, .int p1, .int p2, .int p3] f (some (.int r.1)) r.2 ∧ pz_is f a0 8 = some () := by
  unfold fnX9_set at hf
  obtain ⟨_, h0, hf⟩ := pz_bd hf
  refine ⟨pz_enter (by decide +kernel) (Nat.le_of_ble_eq_true rfl) (fun C hl hC hK hnm => ?_), h0⟩
  subst hl
  refine pz_sub (lv' := [(0, .ref a0), (1, .int p1), (2, .int p2), (3, .int p3)]) [0, 1, 2, 3] rfl ?_
  refine pz_aload_n hC dX9_set_0 0 rfl ?_
  refine pz_getR hC dX9_set_1 fa_X9_16 hf (fun v1 hf => ?_)
  refine pz_iload_n hC dX9_set_4 1 rfl ?_
  refine pz_iload_n hC dX9_set_5 2 rfl ?_
  refine pz_iload_n hC dX9_set_6 3 rfl ?_
  refine pz_Vi (As := [.int p1, .int p2, .int p3]) hC hK dX9_set_7 py_X3_canChange pv_X3_canChange lk_X9_72 hf (fun _ h => mX3_canChange h) rfl rfl (Nat.le_of_ble_eq_true rfl) ⟨by decide, by decide⟩ ⟨Nat.le_of_ble_eq_true rfl, Nat.le_of_ble_eq_true rfl⟩ (fun x2 hf => ?_)
  refine pz_if_eq hC dX9_set_10 hf (fun _ hf => ?_) (fun _ hf => ?_)
  · refine pz_sub [] rfl ?_
    exact tX9_set_26 hC hK hf
  · refine pz_aload_n hC dX9_set_13 0 rfl ?_
    refine pz_getR hC dX9_set_14 fa_X9_16 hf (fun v3 hf => ?_)
    refine pz_iload_n hC dX9_set_17 1 rfl ?_
    refine pz_iload_n hC dX9_set_18 2 rfl ?_
    refine pz_Vi (As := [.int p1, .int p2]) hC hK dX9_set_19 py_X3_valueOf pv_X3_valueOf lk_X9_76 hf (fun _ h => mX3_valueOf h) rfl rfl (Nat.le_of_ble_eq_true rfl) ⟨by decide, by decide⟩ ⟨Nat.le_of_ble_eq_true rfl, Nat.le_of_ble_eq_true rfl⟩ (fun x4 hf => ?_)
    refine pz_iload_n hC dX9_set_22 3 rfl ?_
    refine pz_icmp_ne hC dX9_set_23 hf (fun _ hf => ?_) (fun _ hf => ?_)
    · refine pz_aload_n hC dX9_set_28 0 rfl ?_
      refine pz_Vv (As := []) hC hK dX9_set_29 py_X9_keepPast pv_X9_keepPast lk_X9_69 hf (fun _ h => mX9_keepPast h) rfl rfl (Nat.le_of_ble_eq_true rfl) ⟨by decide, by decide⟩ ⟨Nat.le_of_ble_eq_true rfl, Nat.le_of_ble_eq_true rfl⟩ (fun x5 hf => ?_)
      refine pz_aload_n hC dX9_set_32 0 rfl ?_
      refine pz_getR hC dX9_set_33 fa_X9_16 hf (fun v6 hf => ?_)
      refine pz_iload_n hC dX9_set_36 1 rfl ?_
      refine pz_iload_n hC dX9_set_37 2 rfl ?_
      refine pz_iload_n hC dX9_set_38 3 rfl ?_
      refine pz_Vv (As := [.int p1, .int p2, .int p3]) hC hK dX9_set_39 py_X3_change pv_X3_change lk_X9_80 hf (fun _ h => mX3_change h) rfl rfl (Nat.le_of_ble_eq_true rfl) ⟨by decide, by decide⟩ ⟨Nat.le_of_ble_eq_true rfl, Nat.le_of_ble_eq_true rfl⟩ (fun x7 hf => ?_)
      refine pz_iconst (v := (1 : Int32)) hC dX9_set_42 (by decide) ?_
      exact pz_zretw hC hK dX9_set_43 hf
    · refine pz_sub [] rfl ?_
      exact tX9_set_26 hC hK hf
def fnX9_undo (f : pz_H) (a0 : Nat) : Option (Int32 × pz_H) :=
  (pz_is f a0 8).bind fun _ =>
  (pz_gI f a0 8 4).bind fun v1 =>
  if v1 = 0 then some (((-1) : Int32), f) else
  (pz_gI f a0 8 4).bind fun v2 =>
  (pz_sV f a0 8 4 (.int (v2 - (1 : Int32)))).bind fun f3 =>
  (pz_gR f3 a0 8 1).bind fun v4 =>
  (pz_gR f3 a0 8 3).bind fun v5 =>
  (pz_gI f3 a0 8 4).bind fun v6 =>
  (pz_aR f3 v5 5 v6).bind fun v7 =>
  (fnX3_copyFrom f3 v4 v7).bind fun x8 =>
  (pz_gI x8 a0 8 4).bind fun v9 =>
  some (v9, x8)
theorem mX9_undo {l : Launch} {G : pz_G} {f : pz_H} {a0 : Nat} {r : (Int32 × pz_H)} (hf : fnX9_undo f a0 = some r) : pz_Met l G yX9_undo cX9_undo 1 (some .int) 2 44 0 0 [.ref a0] f (some (.int r.1)) r.2 ∧ pz_is f a0 8 = some () := by
  unfold fnX9_undo at hf
  obtain ⟨_, h0, hf⟩ := pz_bd hf
  refine ⟨pz_enter (by decide +kernel) (Nat.le_of_ble_eq_true rfl) (fun C hl hC hK hnm => ?_), h0⟩
  subst hl
  refine pz_sub (lv' := [(0, .ref a0)]) [0] rfl ?_
  refine pz_aload_n hC dX9_undo_0 0 rfl ?_
  refine pz_getI hC dX9_undo_1 fa_X9_27 hf (fun v1 hf => ?_)
  refine pz_if_ne hC dX9_undo_4 hf (fun _ hf => ?_) (fun _ hf => ?_)
  · refine pz_aload_n hC dX9_undo_9 0 rfl ?_
    refine pz_dup hC dX9_undo_10 rfl ?_
    refine pz_getI hC dX9_undo_11 fa_X9_27 hf (fun v2 hf => ?_)
    refine pz_iconst (v := (1 : Int32)) hC dX9_undo_14 (by decide) ?_
    refine pz_isub hC dX9_undo_15 ?_
    refine pz_putV hC dX9_undo_16 fp_X9_27 rfl rfl hf (fun f3 hf => ?_)
    refine pz_aload_n hC dX9_undo_19 0 rfl ?_
    refine pz_getR hC dX9_undo_20 fa_X9_16 hf (fun v4 hf => ?_)
    refine pz_aload_n hC dX9_undo_23 0 rfl ?_
    refine pz_getR hC dX9_undo_24 fa_X9_23 hf (fun v5 hf => ?_)
    refine pz_aload_n hC dX9_undo_27 0 rfl ?_
    refine pz_getI hC dX9_undo_28 fa_X9_27 hf (fun v6 hf => ?_)
    refine pz_aald hC dX9_undo_31 (fun _ => rfl) (by decide) hf (fun v7 hf => ?_)
    refine pz_Vv (As := [.ref v7]) hC hK dX9_undo_32 py_X3_copyFrom pv_X3_copyFrom lk_X9_58 hf (fun _ h => mX3_copyFrom h) rfl rfl (Nat.le_of_ble_eq_true rfl) ⟨by decide, by decide⟩ ⟨Nat.le_of_ble_eq_true rfl, Nat.le_of_ble_eq_true rfl⟩ (fun x8 hf => ?_)
    refine pz_aload_n hC dX9_undo_35 0 rfl ?_
    refine pz_getI hC dX9_undo_36 fa_X9_27 hf (fun v9 hf => ?_)
    exact pz_iretw hC hK dX9_undo_39 hf
  · refine pz_iconst (v := ((-1) : Int32)) hC dX9_undo_7 (by decide) ?_
    exact pz_iretw hC hK dX9_undo_8 hf
def fnX9_count (f : pz_H) (a0 : Nat) (p1 : Int32) : Option Int32 :=
  (pz_is f a0 8).bind fun _ =>
  (fnX9_isTerm p1).bind fun x1 =>
  if x1 = 0 then if p1 = (0 : Int32) then (pz_gR f a0 8 1).bind fun v2 =>
  (pz_gI f v2 2 5).bind fun v3 =>
  some v3 else
  if p1 = (1 : Int32) then (pz_gR f a0 8 1).bind fun v4 =>
  (pz_gI f v4 2 8).bind fun v5 =>
  some v5 else
  if p1 = (2 : Int32) then (pz_gR f a0 8 1).bind fun v6 =>
  (pz_gR f v6 2 9).bind fun v7 =>
  (pz_gI f v7 1 2).bind fun v8 =>
  some v8 else
  if p1 = (3 : Int32) then (pz_gR f a0 8 1).bind fun v9 =>
  (pz_gI f v9 2 0).bind fun v10 =>
  some v10 else
  if p1 = (4 : Int32) then (pz_gR f a0 8 1).bind fun v11 =>
  (pz_gI f v11 2 1).bind fun v12 =>
  some v12 else
  if p1 = (5 : Int32) then (pz_gR f a0 8 1).bind fun v13 =>
  (pz_gI f v13 2 2).bind fun v14 =>
  some v14 else
  if p1 = (6 : Int32) then (pz_gR f a0 8 5).bind fun v15 =>
  (pz_gI f v15 3 1).bind fun v16 =>
  some v16 else
  if p1 = (7 : Int32) then (pz_gI f a0 8 4).bind fun v17 =>
  some v17 else
  some (((-1) : Int32)) else
  (pz_gR f a0 8 1).bind fun v18 =>
  (pz_gR f v18 2 3).bind fun v19 =>
  (pz_aI f v19 0 ((p1 - (10 : Int32)))).bind fun v20 =>
  some v20
theorem mX9_count {l : Launch} {G : pz_G} {f : pz_H} {a0 : Nat} {p1 : Int32} {r : Int32} (hf : fnX9_count f a0 p1 = some r) : pz_Met l G yX9_count cX9_count 2 (some .int) 1 20 0 0 [.ref a0, .int p1] f (some (.int r)) f ∧ pz_is f a0 8 = some () := by
  unfold fnX9_count at hf
  obtain ⟨_, h0, hf⟩ := pz_bd hf
  refine ⟨pz_enter (by decide +kernel) (Nat.le_of_ble_eq_true rfl) (fun C hl hC hK hnm => ?_), h0⟩
  subst hl
  refine pz_sub (lv' := [(0, .ref a0), (1, .int p1)]) [0, 1] rfl ?_
  refine pz_iload_n hC dX9_count_0 1 rfl ?_
  refine pz_Si (As := [.int p1]) hC hK dX9_count_1 py_X9_isTerm ps_X9_isTerm lk_X9_84 hf (fun _ h => mX9_isTerm h) rfl rfl (Nat.le_of_ble_eq_true rfl) ⟨by decide, by decide⟩ ⟨by decide, by decide⟩ (fun x1 hf => ?_)
  refine pz_if_eq hC dX9_count_4 hf (fun _ hf => ?_) (fun _ hf => ?_)
  · refine pz_iload_n hC dX9_count_20 1 rfl ?_
    refine pz_case (x := p1) (v := (0 : Int32)) hf (fun c21_0 hf => ?_) (fun c21_0 hf => ?_)
    · refine pz_tabI (tgt := 68) hC dX9_count_21 c21_0 (by decide) (by decide) rfl rfl ?_
      refine pz_aload_n hC dX9_count_68 0 rfl ?_
      refine pz_getR hC dX9_count_69 fa_X9_16 hf (fun v2 hf => ?_)
      refine pz_getI hC dX9_count_72 fa_X9_92 hf (fun v3 hf => ?_)
      exact pz_iret hC hK dX9_count_75 hf
    refine pz_case (x := p1) (v := (1 : Int32)) hf (fun c21_1 hf => ?_) (fun c21_1 hf => ?_)
    · refine pz_tabI (tgt := 76) hC dX9_count_21 c21_1 (by decide) (by decide) rfl rfl ?_
      refine pz_aload_n hC dX9_count_76 0 rfl ?_
      refine pz_getR hC dX9_count_77 fa_X9_16 hf (fun v4 hf => ?_)
      refine pz_getI hC dX9_count_80 fa_X9_95 hf (fun v5 hf => ?_)
      exact pz_iret hC hK dX9_count_83 hf
    refine pz_case (x := p1) (v := (2 : Int32)) hf (fun c21_2 hf => ?_) (fun c21_2 hf => ?_)
    · refine pz_tabI (tgt := 84) hC dX9_count_21 c21_2 (by decide) (by decide) rfl rfl ?_
      refine pz_aload_n hC dX9_count_84 0 rfl ?_
      refine pz_getR hC dX9_count_85 fa_X9_16 hf (fun v6 hf => ?_)
      refine pz_getR hC dX9_count_88 fa_X9_98 hf (fun v7 hf => ?_)
      refine pz_getI hC dX9_count_91 fa_X9_102 hf (fun v8 hf => ?_)
      exact pz_iret hC hK dX9_count_94 hf
    refine pz_case (x := p1) (v := (3 : Int32)) hf (fun c21_3 hf => ?_) (fun c21_3 hf => ?_)
    · refine pz_tabI (tgt := 95) hC dX9_count_21 c21_3 (by decide) (by decide) rfl rfl ?_
      refine pz_aload_n hC dX9_count_95 0 rfl ?_
      refine pz_getR hC dX9_count_96 fa_X9_16 hf (fun v9 hf => ?_)
      refine pz_getI hC dX9_count_99 fa_X9_107 hf (fun v10 hf => ?_)
      exact pz_iret hC hK dX9_count_102 hf
    refine pz_case (x := p1) (v := (4 : Int32)) hf (fun c21_4 hf => ?_) (fun c21_4 hf => ?_)
    · refine pz_tabI (tgt := 103) hC dX9_count_21 c21_4 (by decide) (by decide) rfl rfl ?_
      refine pz_aload_n hC dX9_count_103 0 rfl ?_
      refine pz_getR hC dX9_count_104 fa_X9_16 hf (fun v11 hf => ?_)
      refine pz_getI hC dX9_count_107 fa_X9_110 hf (fun v12 hf => ?_)
      exact pz_iret hC hK dX9_count_110 hf
    refine pz_case (x := p1) (v := (5 : Int32)) hf (fun c21_5 hf => ?_) (fun c21_5 hf => ?_)
    · refine pz_tabI (tgt := 111) hC dX9_count_21 c21_5 (by decide) (by decide) rfl rfl ?_
      refine pz_aload_n hC dX9_count_111 0 rfl ?_
      refine pz_getR hC dX9_count_112 fa_X9_16 hf (fun v13 hf => ?_)
      refine pz_getI hC dX9_count_115 fa_X9_113 hf (fun v14 hf => ?_)
      exact pz_iret hC hK dX9_count_118 hf
    refine pz_case (x := p1) (v := (6 : Int32)) hf (fun c21_6 hf => ?_) (fun c21_6 hf => ?_)
    · refine pz_tabI (tgt := 119) hC dX9_count_21 c21_6 (by decide) (by decide) rfl rfl ?_
      refine pz_aload_n hC dX9_count_119 0 rfl ?_
      refine pz_getR hC dX9_count_120 fa_X9_33 hf (fun v15 hf => ?_)
      refine pz_getI hC dX9_count_123 fa_X9_51 hf (fun v16 hf => ?_)
      exact pz_iret hC hK dX9_count_126 hf
    refine pz_case (x := p1) (v := (7 : Int32)) hf (fun c21_7 hf => ?_) (fun c21_7 hf => ?_)
    · refine pz_tabI (tgt := 127) hC dX9_count_21 c21_7 (by decide) (by decide) rfl rfl ?_
      refine pz_aload_n hC dX9_count_127 0 rfl ?_
      refine pz_getI hC dX9_count_128 fa_X9_27 hf (fun v17 hf => ?_)
      exact pz_iret hC hK dX9_count_131 hf
    have ec21_0 : ¬ p1.toInt = 0 := lv_neT c21_0 rfl
    have ec21_1 : ¬ p1.toInt = 1 := lv_neT c21_1 rfl
    have ec21_2 : ¬ p1.toInt = 2 := lv_neT c21_2 rfl
    have ec21_3 : ¬ p1.toInt = 3 := lv_neT c21_3 rfl
    have ec21_4 : ¬ p1.toInt = 4 := lv_neT c21_4 rfl
    have ec21_5 : ¬ p1.toInt = 5 := lv_neT c21_5 rfl
    have ec21_6 : ¬ p1.toInt = 6 := lv_neT c21_6 rfl
    have ec21_7 : ¬ p1.toInt = 7 := lv_neT c21_7 rfl
    refine pz_tabO (tgt := 132) hC dX9_count_21 (by omega) rfl ?_
    refine pz_iconst (v := ((-1) : Int32)) hC dX9_count_132 (by decide) ?_
    exact pz_iret hC hK dX9_count_133 hf
  · refine pz_aload_n hC dX9_count_7 0 rfl ?_
    refine pz_getR hC dX9_count_8 fa_X9_16 hf (fun v18 hf => ?_)
    refine pz_getR hC dX9_count_11 fa_X9_88 hf (fun v19 hf => ?_)
    refine pz_iload_n hC dX9_count_14 1 rfl ?_
    refine pz_bipush (v := (10 : Int32)) hC dX9_count_15 (by decide) ?_
    refine pz_isub hC dX9_count_17 ?_
    refine pz_iald hC dX9_count_18 hf (fun v20 hf => ?_)
    exact pz_iret hC hK dX9_count_19 hf
def fX9_service_27 (f : pz_H) (s0 : Int32) : Option Int32 :=
  some s0
theorem tX9_service_27 {G : pz_G} {C : pz_C} {f : pz_H} {s0 : Int32} {r : Int32} (hC : pz_OK G C cX9_service 3 RX9) (hK : pz_K C (some .int) 1 26 0 0) (hf : fX9_service_27 f s0 = some r) : pz_W G C 3 27 [] [.int s0] f 0 0 (pz_Q G C (some (.int r)) f 0 0) := by
  unfold fX9_service_27 at hf
  exact pz_iret hC hK dX9_service_27 hf
def fX9_service_26 (f : pz_H) : Option Int32 :=
  fX9_service_27 f (((-1) : Int32))
theorem tX9_service_26 {G : pz_G} {C : pz_C} {f : pz_H} {r : Int32} (hC : pz_OK G C cX9_service 3 RX9) (hK : pz_K C (some .int) 1 26 0 0) (hf : fX9_service_26 f = some r) : pz_W G C 3 26 [] [] f 0 0 (pz_Q G C (some (.int r)) f 0 0) := by
  unfold fX9_service_26 at hf
  refine pz_iconst (v := ((-1) : Int32)) hC dX9_service_26 (by decide) ?_
  exact tX9_service_27 hC hK hf
def fnX9_service (f : pz_H) (a0 : Nat) (p1 : Int32) (p2 : Int32) : Option Int32 :=
  (pz_is f a0 8).bind fun _ =>
  (fnX9_isMonth p1).bind fun x1 =>
  if x1 = 0 then fX9_service_26 f else
  (fnX9_isMonth p2).bind fun x2 =>
  if x2 = 0 then fX9_service_26 f else
  (pz_gR f a0 8 1).bind fun v3 =>
  (fnX3_serviceWithin f v3 p1 p2).bind fun x4 =>
  fX9_service_27 f x4
theorem mX9_service {l : Launch} {G : pz_G} {f : pz_H} {a0 : Nat} {p1 : Int32} {p2 : Int32} {r : Int32} (hf : fnX9_service f a0 p1 p2 = some r) : pz_Met l G yX9_service cX9_service 3 (some .int) 1 26 0 0 [.ref a0, .int p1, .int p2] f (some (.int r)) f ∧ pz_is f a0 8 = some () := by
  unfold fnX9_service at hf
  obtain ⟨_, h0, hf⟩ := pz_bd hf
  refine ⟨pz_enter (by decide +kernel) (Nat.le_of_ble_eq_true rfl) (fun C hl hC hK hnm => ?_), h0⟩
  subst hl
  refine pz_sub (lv' := [(0, .ref a0), (1, .int p1), (2, .int p2)]) [0, 1, 2] rfl ?_
  refine pz_iload_n hC dX9_service_0 1 rfl ?_
  refine pz_Si (As := [.int p1]) hC hK dX9_service_1 py_X9_isMonth ps_X9_isMonth lk_X9_180 hf (fun _ h => mX9_isMonth h) rfl rfl (Nat.le_of_ble_eq_true rfl) ⟨by decide, by decide⟩ ⟨by decide, by decide⟩ (fun x1 hf => ?_)
  refine pz_if_eq hC dX9_service_4 hf (fun _ hf => ?_) (fun _ hf => ?_)
  · refine pz_sub [] rfl ?_
    exact tX9_service_26 hC hK hf
  · refine pz_iload_n hC dX9_service_7 2 rfl ?_
    refine pz_Si (As := [.int p2]) hC hK dX9_service_8 py_X9_isMonth ps_X9_isMonth lk_X9_180 hf (fun _ h => mX9_isMonth h) rfl rfl (Nat.le_of_ble_eq_true rfl) ⟨by decide, by decide⟩ ⟨by decide, by decide⟩ (fun x2 hf => ?_)
    refine pz_if_eq hC dX9_service_11 hf (fun _ hf => ?_) (fun _ hf => ?_)
    · refine pz_sub [] rfl ?_
      exact tX9_service_26 hC hK hf
    · refine pz_aload_n hC dX9_service_14 0 rfl ?_
      refine pz_getR hC dX9_service_15 fa_X9_16 hf (fun v3 hf => ?_)
      refine pz_iload_n hC dX9_service_18 1 rfl ?_
      refine pz_iload_n hC dX9_service_19 2 rfl ?_
      refine pz_Vi (As := [.int p1, .int p2]) hC hK dX9_service_20 py_X3_serviceWithin pv_X3_serviceWithin lk_X9_183 hf (fun _ h => mX3_serviceWithin h) rfl rfl (Nat.le_of_ble_eq_true rfl) ⟨by decide, by decide⟩ ⟨Nat.le_of_ble_eq_true rfl, Nat.le_of_ble_eq_true rfl⟩ (fun x4 hf => ?_)
      refine pz_goto hC dX9_service_23 ?_
      refine pz_sub [] rfl ?_
      exact tX9_service_27 hC hK hf
def fnX9_benefit (f : pz_H) (a0 : Nat) (p1 : Int32) : Option Int32 :=
  (pz_is f a0 8).bind fun _ =>
  if p1 = (0 : Int32) then (pz_gR f a0 8 1).bind fun v1 =>
  (pz_gI f v1 2 6).bind fun v2 =>
  some v2 else
  if p1 = (1 : Int32) then (pz_gR f a0 8 1).bind fun v3 =>
  (fnX3_finalPay f v3).bind fun x4 =>
  some x4 else
  if p1 = (2 : Int32) then (pz_gR f a0 8 1).bind fun v5 =>
  (fnX3_basePay f v5).bind fun x6 =>
  some x6 else
  if p1 = (3 : Int32) then (pz_gR f a0 8 1).bind fun v7 =>
  (fnX3_firstPay f v7).bind fun x8 =>
  some x8 else
  some (((-1) : Int32))
theorem mX9_benefit {l : Launch} {G : pz_G} {f : pz_H} {a0 : Nat} {p1 : Int32} {r : Int32} (hf : fnX9_benefit f a0 p1 = some r) : pz_Met l G yX9_benefit cX9_benefit 2 (some .int) 3 68 0 0 [.ref a0, .int p1] f (some (.int r)) f ∧ pz_is f a0 8 = some () := by
  unfold fnX9_benefit at hf
  obtain ⟨_, h0, hf⟩ := pz_bd hf
  refine ⟨pz_enter (by decide +kernel) (Nat.le_of_ble_eq_true rfl) (fun C hl hC hK hnm => ?_), h0⟩
  subst hl
  refine pz_sub (lv' := [(0, .ref a0), (1, .int p1)]) [0, 1] rfl ?_
  refine pz_iload_n hC dX9_benefit_0 1 rfl ?_
  refine pz_case (x := p1) (v := (0 : Int32)) hf (fun c1_0 hf => ?_) (fun c1_0 hf => ?_)
  · refine pz_tabI (tgt := 32) hC dX9_benefit_1 c1_0 (by decide) (by decide) rfl rfl ?_
    refine pz_aload_n hC dX9_benefit_32 0 rfl ?_
    refine pz_getR hC dX9_benefit_33 fa_X9_16 hf (fun v1 hf => ?_)
    refine pz_getI hC dX9_benefit_36 fa_X9_186 hf (fun v2 hf => ?_)
    exact pz_iret hC hK dX9_benefit_39 hf
  refine pz_case (x := p1) (v := (1 : Int32)) hf (fun c1_1 hf => ?_) (fun c1_1 hf => ?_)
  · refine pz_tabI (tgt := 40) hC dX9_benefit_1 c1_1 (by decide) (by decide) rfl rfl ?_
    refine pz_aload_n hC dX9_benefit_40 0 rfl ?_
    refine pz_getR hC dX9_benefit_41 fa_X9_16 hf (fun v3 hf => ?_)
    refine pz_Vi (As := []) hC hK dX9_benefit_44 py_X3_finalPay pv_X3_finalPay lk_X9_187 hf (fun _ h => mX3_finalPay h) rfl rfl (Nat.le_of_ble_eq_true rfl) ⟨by decide, by decide⟩ ⟨Nat.le_of_ble_eq_true rfl, Nat.le_of_ble_eq_true rfl⟩ (fun x4 hf => ?_)
    exact pz_iret hC hK dX9_benefit_47 hf
  refine pz_case (x := p1) (v := (2 : Int32)) hf (fun c1_2 hf => ?_) (fun c1_2 hf => ?_)
  · refine pz_tabI (tgt := 48) hC dX9_benefit_1 c1_2 (by decide) (by decide) rfl rfl ?_
    refine pz_aload_n hC dX9_benefit_48 0 rfl ?_
    refine pz_getR hC dX9_benefit_49 fa_X9_16 hf (fun v5 hf => ?_)
    refine pz_Vi (As := []) hC hK dX9_benefit_52 py_X3_basePay pv_X3_basePay lk_X9_191 hf (fun _ h => mX3_basePay h) rfl rfl (Nat.le_of_ble_eq_true rfl) ⟨by decide, by decide⟩ ⟨Nat.le_of_ble_eq_true rfl, Nat.le_of_ble_eq_true rfl⟩ (fun x6 hf => ?_)
    exact pz_iret hC hK dX9_benefit_55 hf
  refine pz_case (x := p1) (v := (3 : Int32)) hf (fun c1_3 hf => ?_) (fun c1_3 hf => ?_)
  · refine pz_tabI (tgt := 56) hC dX9_benefit_1 c1_3 (by decide) (by decide) rfl rfl ?_
    refine pz_aload_n hC dX9_benefit_56 0 rfl ?_
    refine pz_getR hC dX9_benefit_57 fa_X9_16 hf (fun v7 hf => ?_)
    refine pz_Vi (As := []) hC hK dX9_benefit_60 py_X3_firstPay pv_X3_firstPay lk_X9_194 hf (fun _ h => mX3_firstPay h) rfl rfl (Nat.le_of_ble_eq_true rfl) ⟨by decide, by decide⟩ ⟨Nat.le_of_ble_eq_true rfl, Nat.le_of_ble_eq_true rfl⟩ (fun x8 hf => ?_)
    exact pz_iret hC hK dX9_benefit_63 hf
  have ec1_0 : ¬ p1.toInt = 0 := lv_neT c1_0 rfl
  have ec1_1 : ¬ p1.toInt = 1 := lv_neT c1_1 rfl
  have ec1_2 : ¬ p1.toInt = 2 := lv_neT c1_2 rfl
  have ec1_3 : ¬ p1.toInt = 3 := lv_neT c1_3 rfl
  refine pz_tabO (tgt := 64) hC dX9_benefit_1 (by omega) rfl ?_
  refine pz_iconst (v := ((-1) : Int32)) hC dX9_benefit_64 (by decide) ?_
  exact pz_iret hC hK dX9_benefit_65 hf
def fnX9_whole (f : pz_H) (a0 : Nat) (p1 : Int32) : Option (Int32 × pz_H) :=
  (pz_is f a0 8).bind fun _ =>
  (fnX9_isMonth p1).bind fun x1 =>
  if x1 = 0 then some (((-1) : Int32), f) else
  (pz_gR f a0 8 6).bind fun v2 =>
  (pz_gR f a0 8 1).bind fun v3 =>
  (fnX5_fillWholes f v2 v3).bind fun x4 =>
  (pz_gR x4 a0 8 6).bind fun v5 =>
  (pz_gR x4 v5 4 0).bind fun v6 =>
  (pz_aI x4 v6 0 p1).bind fun v7 =>
  some (v7, x4)
theorem mX9_whole {l : Launch} {G : pz_G} {f : pz_H} {a0 : Nat} {p1 : Int32} {r : (Int32 × pz_H)} (hf : fnX9_whole f a0 p1 = some r) : pz_Met l G yX9_whole cX9_whole 2 (some .int) 4 92 0 0 [.ref a0, .int p1] f (some (.int r.1)) r.2 ∧ pz_is f a0 8 = some () := by
  unfold fnX9_whole at hf
  obtain ⟨_, h0, hf⟩ := pz_bd hf
  refine ⟨pz_enter (by decide +kernel) (Nat.le_of_ble_eq_true rfl) (fun C hl hC hK hnm => ?_), h0⟩
  subst hl
  refine pz_sub (lv' := [(0, .ref a0), (1, .int p1)]) [0, 1] rfl ?_
  refine pz_iload_n hC dX9_whole_0 1 rfl ?_
  refine pz_Si (As := [.int p1]) hC hK dX9_whole_1 py_X9_isMonth ps_X9_isMonth lk_X9_180 hf (fun _ h => mX9_isMonth h) rfl rfl (Nat.le_of_ble_eq_true rfl) ⟨by decide, by decide⟩ ⟨by decide, by decide⟩ (fun x1 hf => ?_)
  refine pz_if_ne hC dX9_whole_4 hf (fun _ hf => ?_) (fun _ hf => ?_)
  · refine pz_aload_n hC dX9_whole_9 0 rfl ?_
    refine pz_getR hC dX9_whole_10 fa_X9_40 hf (fun v2 hf => ?_)
    refine pz_aload_n hC dX9_whole_13 0 rfl ?_
    refine pz_getR hC dX9_whole_14 fa_X9_16 hf (fun v3 hf => ?_)
    refine pz_Vv (As := [.ref v3]) hC hK dX9_whole_17 py_X5_fillWholes pv_X5_fillWholes lk_X9_197 hf (fun _ h => mX5_fillWholes h) rfl rfl (Nat.le_of_ble_eq_true rfl) ⟨by decide, by decide⟩ ⟨Nat.le_of_ble_eq_true rfl, Nat.le_of_ble_eq_true rfl⟩ (fun x4 hf => ?_)
    refine pz_aload_n hC dX9_whole_20 0 rfl ?_
    refine pz_getR hC dX9_whole_21 fa_X9_40 hf (fun v5 hf => ?_)
    refine pz_getR hC dX9_whole_24 fa_X9_200 hf (fun v6 hf => ?_)
    refine pz_iload_n hC dX9_whole_27 1 rfl ?_
    refine pz_iald hC dX9_whole_28 hf (fun v7 hf => ?_)
    exact pz_iretw hC hK dX9_whole_29 hf
  · refine pz_iconst (v := ((-1) : Int32)) hC dX9_whole_7 (by decide) ?_
    exact pz_iretw hC hK dX9_whole_8 hf
def fX9_commonDivisor_34 (l2 : Int32) : Option Int32 :=
  some l2
theorem tX9_commonDivisor_34 {G : pz_G} {C : pz_C} {f : pz_H} {l2 : Int32} {r : Int32} (hC : pz_OK G C cX9_commonDivisor 6 RX9) (hK : pz_K C (some .int) 0 0 0 0) (hf : fX9_commonDivisor_34 l2 = some r) : pz_W G C 6 34 [(2, .int l2)] [] f 0 0 (pz_Q G C (some (.int r)) f 0 0) := by
  unfold fX9_commonDivisor_34 at hf
  refine pz_iload_n hC dX9_commonDivisor_34 0 rfl ?_
  exact pz_iret hC hK dX9_commonDivisor_35 hf
def fX9_commonDivisor_7b (k7 : Int32 → Int32 → Int32 → Option Int32) (l2 : Int32) (l3 : Int32) (l4 : Int32) : Option Int32 :=
  if (64 : Int32) ≤ l4 then fX9_commonDivisor_34 l2 else
  if l3 = 0 then fX9_commonDivisor_34 l2 else
  if l3 = 0 then none else
  k7 l3 ((l2 - l2 / l3 * l3)) ((l4 + 1))
theorem tX9_commonDivisor_7b {G : pz_G} {C : pz_C} {f : pz_H} {k7 : Int32 → Int32 → Int32 → Option Int32} {l2 : Int32} {l3 : Int32} {l4 : Int32} {r : Int32} (hC : pz_OK G C cX9_commonDivisor 6 RX9) (hK : pz_K C (some .int) 0 0 0 0) (hk7 : ∀ (a2 : Int32) (a3 : Int32) (a4 : Int32), k7 a2 a3 a4 = some r → pz_W G C 6 7 [(2, .int a2), (3, .int a3), (4, .int a4)] [] f 0 0 (pz_Q G C (some (.int r)) f 0 0)) (hf : fX9_commonDivisor_7b k7 l2 l3 l4 = some r) : pz_W G C 6 7 [(2, .int l2), (3, .int l3), (4, .int l4)] [] f 0 0 (pz_Q G C (some (.int r)) f 0 0) := by
  unfold fX9_commonDivisor_7b at hf
  refine pz_iload hC dX9_commonDivisor_7 2 rfl ?_
  refine pz_bipush (v := (64 : Int32)) hC dX9_commonDivisor_9 (by decide) ?_
  refine pz_icmp_ge hC dX9_commonDivisor_11 hf (fun _ hf => ?_) (fun _ hf => ?_)
  · refine pz_sub [0] rfl ?_
    exact tX9_commonDivisor_34 hC hK hf
  · refine pz_iload_n hC dX9_commonDivisor_14 1 rfl ?_
    refine pz_if_eq hC dX9_commonDivisor_15 hf (fun _ hf => ?_) (fun _ hf => ?_)
    · refine pz_sub [0] rfl ?_
      exact tX9_commonDivisor_34 hC hK hf
    · refine pz_iload_n hC dX9_commonDivisor_18 0 rfl ?_
      refine pz_iload_n hC dX9_commonDivisor_19 1 rfl ?_
      refine pz_irem hC dX9_commonDivisor_20 hf (fun hf => ?_)
      refine pz_istore hC dX9_commonDivisor_21 (by decide) rfl ?_
      refine pz_iload_n hC dX9_commonDivisor_23 2 rfl ?_
      refine pz_istore_n hC dX9_commonDivisor_24 (by decide) rfl ?_
      refine pz_iload hC dX9_commonDivisor_25 1 rfl ?_
      refine pz_istore_n hC dX9_commonDivisor_27 (by decide) rfl ?_
      refine pz_iinc (v := (l4 + 1)) hC dX9_commonDivisor_28 3 rfl rfl (by decide) rfl ?_
      refine pz_goto hC dX9_commonDivisor_31 ?_
      refine pz_sub [2, 1, 0] rfl ?_
      exact hk7 _ _ _ hf
def fX9_commonDivisor_7 : Nat → Int32 → Int32 → Int32 → Option Int32
  | 0, _, _, _ => none
  | n + 1, l2, l3, l4 => fX9_commonDivisor_7b (fX9_commonDivisor_7 n) l2 l3 l4
theorem tX9_commonDivisor_7 {G : pz_G} {C : pz_C} {f : pz_H} {r : Int32} (hC : pz_OK G C cX9_commonDivisor 6 RX9) (hK : pz_K C (some .int) 0 0 0 0) : ∀ (N : Nat) (l2 : Int32) (l3 : Int32) (l4 : Int32), fX9_commonDivisor_7 N l2 l3 l4 = some r → pz_W G C 6 7 [(2, .int l2), (3, .int l3), (4, .int l4)] [] f 0 0 (pz_Q G C (some (.int r)) f 0 0) := by
  intro N
  induction N with
  | zero => intro l2 l3 l4 hf; cases hf
  | succ N ih => intro l2 l3 l4 hf; exact tX9_commonDivisor_7b hC hK (fun l2 l3 l4 hf => ih l2 l3 l4 hf) hf
def fnX9_commonDivisor (p0 : Int32) (p1 : Int32) : Option Int32 :=
  fX9_commonDivisor_7 pz_F p0 p1 ((0 : Int32))
theorem mX9_commonDivisor {l : Launch} {G : pz_G} {f : pz_H} {p0 : Int32} {p1 : Int32} {r : Int32} (hf : fnX9_commonDivisor p0 p1 = some r) : pz_Met l G yX9_commonDivisor cX9_commonDivisor 6 (some .int) 0 0 0 0 [.int p0, .int p1] f (some (.int r)) f := by
  unfold fnX9_commonDivisor at hf
  refine pz_enter (by decide +kernel) (Nat.le_of_ble_eq_true rfl) (fun C hl hC hK hnm => ?_)
  subst hl
  refine pz_sub (lv' := [(0, .int p0), (1, .int p1)]) [0, 1] rfl ?_
  refine pz_iload_n hC dX9_commonDivisor_0 0 rfl ?_
  refine pz_istore_n hC dX9_commonDivisor_1 (by decide) rfl ?_
  refine pz_iload_n hC dX9_commonDivisor_2 2 rfl ?_
  refine pz_istore_n hC dX9_commonDivisor_3 (by decide) rfl ?_
  refine pz_iconst (v := (0 : Int32)) hC dX9_commonDivisor_4 (by decide) ?_
  refine pz_istore hC dX9_commonDivisor_5 (by decide) rfl ?_
  refine pz_sub [2, 1, 0] rfl ?_
  exact tX9_commonDivisor_7 hC hK _ _ _ _ hf
def fX9_share_48 (f : pz_H) (s0 : Int32) : Option Int32 :=
  some s0
theorem tX9_share_48 {G : pz_G} {C : pz_C} {f : pz_H} {s0 : Int32} {r : Int32} (hC : pz_OK G C cX9_share 7 RX9) (hK : pz_K C (some .int) 1 25 0 0) (hf : fX9_share_48 f s0 = some r) : pz_W G C 7 48 [] [.int s0] f 0 0 (pz_Q G C (some (.int r)) f 0 0) := by
  unfold fX9_share_48 at hf
  exact pz_iret hC hK dX9_share_48 hf
def fX9_share_95 (f : pz_H) (s0 : Int32) : Option Int32 :=
  some s0
theorem tX9_share_95 {G : pz_G} {C : pz_C} {f : pz_H} {s0 : Int32} {r : Int32} (hC : pz_OK G C cX9_share 7 RX9) (hK : pz_K C (some .int) 1 25 0 0) (hf : fX9_share_95 f s0 = some r) : pz_W G C 7 95 [] [.int s0] f 0 0 (pz_Q G C (some (.int r)) f 0 0) := by
  unfold fX9_share_95 at hf
  exact pz_iret hC hK dX9_share_95 hf
def fnX9_share (f : pz_H) (a0 : Nat) (p1 : Int32) (p2 : Int32) : Option Int32 :=
  (pz_is f a0 8).bind fun _ =>
  (pz_gR f a0 8 1).bind fun v1 =>
  (fnX3_hasSpouse f v1 p1).bind fun x2 =>
  if x2 = 0 then some (((-1) : Int32)) else
  (pz_gR f a0 8 1).bind fun v3 =>
  (pz_gR f v3 2 7).bind fun v4 =>
  (pz_aR f v4 4 p1).bind fun v5 =>
  (pz_gI f v5 6 3).bind fun v6 =>
  (pz_gI f v5 6 8).bind fun v7 =>
  if (v6 * v7) = 0 then if p2 = 0 then fX9_share_48 f ((0 : Int32)) else
  fX9_share_48 f ((1 : Int32)) else
  (pz_gR f a0 8 1).bind fun v8 =>
  (pz_gI f v8 2 6).bind fun v9 =>
  (fnX9_commonDivisor ((v6 * v7)) (((1000 : Int32) * v9))).bind fun x10 =>
  if x10 = 0 then some (((-1) : Int32)) else
  if p2 = 0 then if x10 = 0 then none else
  fX9_share_95 f (((v6 * v7) / x10)) else
  if x10 = 0 then none else
  fX9_share_95 f ((((1000 : Int32) * v9) / x10))
theorem mX9_share {l : Launch} {G : pz_G} {f : pz_H} {a0 : Nat} {p1 : Int32} {p2 : Int32} {r : Int32} (hf : fnX9_share f a0 p1 p2 = some r) : pz_Met l G yX9_share cX9_share 7 (some .int) 1 25 0 0 [.ref a0, .int p1, .int p2] f (some (.int r)) f ∧ pz_is f a0 8 = some () := by
  unfold fnX9_share at hf
  obtain ⟨_, h0, hf⟩ := pz_bd hf
  refine ⟨pz_enter (by decide +kernel) (Nat.le_of_ble_eq_true rfl) (fun C hl hC hK hnm => ?_), h0⟩
  subst hl
  refine pz_sub (lv' := [(0, .ref a0), (1, .int p1), (2, .int p2)]) [0, 1, 2] rfl ?_
  refine pz_aload_n hC dX9_share_0 0 rfl ?_
  refine pz_getR hC dX9_share_1 fa_X9_16 hf (fun v1 hf => ?_)
  refine pz_iload_n hC dX9_share_4 1 rfl ?_
  refine pz_Vi (As := [.int p1]) hC hK dX9_share_5 py_X3_hasSpouse pv_X3_hasSpouse lk_X9_140 hf (fun _ h => mX3_hasSpouse h) rfl rfl (Nat.le_of_ble_eq_true rfl) ⟨by decide, by decide⟩ ⟨Nat.le_of_ble_eq_true rfl, Nat.le_of_ble_eq_true rfl⟩ (fun x2 hf => ?_)
  refine pz_if_ne hC dX9_share_8 hf (fun _ hf => ?_) (fun _ hf => ?_)
  · refine pz_aload_n hC dX9_share_13 0 rfl ?_
    refine pz_getR hC dX9_share_14 fa_X9_16 hf (fun v3 hf => ?_)
    refine pz_getR hC dX9_share_17 fa_X9_145 hf (fun v4 hf => ?_)
    refine pz_iload_n hC dX9_share_20 1 rfl ?_
    refine pz_aald hC dX9_share_21 (fun _ => rfl) (by decide) hf (fun v5 hf => ?_)
    refine pz_astore_n hC dX9_share_22 (by decide) rfl ?_
    refine pz_aload_n hC dX9_share_23 0 rfl ?_
    refine pz_getI hC dX9_share_24 fa_X9_158 hf (fun v6 hf => ?_)
    refine pz_aload_n hC dX9_share_27 0 rfl ?_
    refine pz_getI hC dX9_share_28 fa_X9_171 hf (fun v7 hf => ?_)
    refine pz_imul hC dX9_share_31 ?_
    refine pz_istore hC dX9_share_32 (by decide) rfl ?_
    refine pz_iload hC dX9_share_34 0 rfl ?_
    refine pz_if_ne hC dX9_share_36 hf (fun _ hf => ?_) (fun _ hf => ?_)
    · refine pz_sipush (v := (1000 : Int32)) hC dX9_share_49 (by decide) ?_
      refine pz_aload_n hC dX9_share_52 2 rfl ?_
      refine pz_getR hC dX9_share_53 fa_X9_16 hf (fun v8 hf => ?_)
      refine pz_getI hC dX9_share_56 fa_X9_186 hf (fun v9 hf => ?_)
      refine pz_imul hC dX9_share_59 ?_
      refine pz_istore hC dX9_share_60 (by decide) rfl ?_
      refine pz_iload hC dX9_share_62 1 rfl ?_
      refine pz_iload hC dX9_share_64 0 rfl ?_
      refine pz_Si (As := [.int (v6 * v7), .int ((1000 : Int32) * v9)]) hC hK dX9_share_66 py_X9_commonDivisor ps_X9_commonDivisor lk_X9_203 hf (fun _ h => mX9_commonDivisor h) rfl rfl (Nat.le_of_ble_eq_true rfl) ⟨by decide, by decide⟩ ⟨by decide, by decide⟩ (fun x10 hf => ?_)
      refine pz_istore hC dX9_share_69 (by decide) rfl ?_
      refine pz_iload hC dX9_share_71 0 rfl ?_
      refine pz_if_ne hC dX9_share_73 hf (fun _ hf => ?_) (fun _ hf => ?_)
      · refine pz_iload_n hC dX9_share_78 6 rfl ?_
        refine pz_if_eq hC dX9_share_79 hf (fun _ hf => ?_) (fun _ hf => ?_)
        · refine pz_iload hC dX9_share_90 2 rfl ?_
          refine pz_iload hC dX9_share_92 0 rfl ?_
          refine pz_idiv hC dX9_share_94 hf (fun hf => ?_)
          refine pz_sub [] rfl ?_
          exact tX9_share_95 hC hK hf
        · refine pz_iload hC dX9_share_82 1 rfl ?_
          refine pz_iload hC dX9_share_84 0 rfl ?_
          refine pz_idiv hC dX9_share_86 hf (fun hf => ?_)
          refine pz_goto hC dX9_share_87 ?_
          refine pz_sub [] rfl ?_
          exact tX9_share_95 hC hK hf
      · refine pz_iconst (v := ((-1) : Int32)) hC dX9_share_76 (by decide) ?_
        exact pz_iret hC hK dX9_share_77 hf
    · refine pz_iload_n hC dX9_share_39 4 rfl ?_
      refine pz_if_eq hC dX9_share_40 hf (fun _ hf => ?_) (fun _ hf => ?_)
      · refine pz_iconst (v := (0 : Int32)) hC dX9_share_47 (by decide) ?_
        refine pz_sub [] rfl ?_
        exact tX9_share_48 hC hK hf
      · refine pz_iconst (v := (1 : Int32)) hC dX9_share_43 (by decide) ?_
        refine pz_goto hC dX9_share_44 ?_
        refine pz_sub [] rfl ?_
        exact tX9_share_48 hC hK hf
  · refine pz_iconst (v := ((-1) : Int32)) hC dX9_share_11 (by decide) ?_
    exact pz_iret hC hK dX9_share_12 hf
def fX9_isPaid_28 (f : pz_H) (s0 : Int32) : Option Int32 :=
  pz_b s0
theorem tX9_isPaid_28 {G : pz_G} {C : pz_C} {f : pz_H} {s0 : Int32} {r : Int32} (hC : pz_OK G C cX9_isPaid 2 RX9) (hK : pz_K C (some .boolean) 1 21 0 0) (hf : fX9_isPaid_28 f s0 = some r) : pz_W G C 2 28 [] [.int s0] f 0 0 (pz_Q G C (some (.int r)) f 0 0) := by
  unfold fX9_isPaid_28 at hf
  exact pz_zret hC hK dX9_isPaid_28 hf
def fX9_isPaid_23 (f : pz_H) : Option Int32 :=
  fX9_isPaid_28 f ((1 : Int32))
theorem tX9_isPaid_23 {G : pz_G} {C : pz_C} {f : pz_H} {r : Int32} (hC : pz_OK G C cX9_isPaid 2 RX9) (hK : pz_K C (some .boolean) 1 21 0 0) (hf : fX9_isPaid_23 f = some r) : pz_W G C 2 23 [] [] f 0 0 (pz_Q G C (some (.int r)) f 0 0) := by
  unfold fX9_isPaid_23 at hf
  refine pz_iconst (v := (1 : Int32)) hC dX9_isPaid_23 (by decide) ?_
  refine pz_goto hC dX9_isPaid_24 ?_
  exact tX9_isPaid_28 hC hK hf
def fnX9_isPaid (f : pz_H) (a0 : Nat) (p1 : Int32) : Option Int32 :=
  (pz_is f a0 8).bind fun _ =>
  if p1 = (10 : Int32) then fX9_isPaid_23 f else
  if p1 = (11 : Int32) then fX9_isPaid_23 f else
  (pz_gR f a0 8 1).bind fun v1 =>
  (fnX3_hasSpouse f v1 p1).bind fun x2 =>
  if x2 = 0 then fX9_isPaid_28 f ((0 : Int32)) else
  fX9_isPaid_23 f
theorem mX9_isPaid {l : Launch} {G : pz_G} {f : pz_H} {a0 : Nat} {p1 : Int32} {r : Int32} (hf : fnX9_isPaid f a0 p1 = some r) : pz_Met l G yX9_isPaid cX9_isPaid 2 (some .boolean) 1 21 0 0 [.ref a0, .int p1] f (some (.int r)) f ∧ pz_is f a0 8 = some () := by
  unfold fnX9_isPaid at hf
  obtain ⟨_, h0, hf⟩ := pz_bd hf
  refine ⟨pz_enter (by decide +kernel) (Nat.le_of_ble_eq_true rfl) (fun C hl hC hK hnm => ?_), h0⟩
  subst hl
  refine pz_sub (lv' := [(0, .ref a0), (1, .int p1)]) [0, 1] rfl ?_
  refine pz_iload_n hC dX9_isPaid_0 1 rfl ?_
  refine pz_bipush (v := (10 : Int32)) hC dX9_isPaid_1 (by decide) ?_
  refine pz_icmp_eq hC dX9_isPaid_3 hf (fun _ hf => ?_) (fun _ hf => ?_)
  · refine pz_sub [] rfl ?_
    exact tX9_isPaid_23 hC hK hf
  · refine pz_iload_n hC dX9_isPaid_6 1 rfl ?_
    refine pz_bipush (v := (11 : Int32)) hC dX9_isPaid_7 (by decide) ?_
    refine pz_icmp_eq hC dX9_isPaid_9 hf (fun _ hf => ?_) (fun _ hf => ?_)
    · refine pz_sub [] rfl ?_
      exact tX9_isPaid_23 hC hK hf
    · refine pz_aload_n hC dX9_isPaid_12 0 rfl ?_
      refine pz_getR hC dX9_isPaid_13 fa_X9_16 hf (fun v1 hf => ?_)
      refine pz_iload_n hC dX9_isPaid_16 1 rfl ?_
      refine pz_Vi (As := [.int p1]) hC hK dX9_isPaid_17 py_X3_hasSpouse pv_X3_hasSpouse lk_X9_140 hf (fun _ h => mX3_hasSpouse h) rfl rfl (Nat.le_of_ble_eq_true rfl) ⟨by decide, by decide⟩ ⟨Nat.le_of_ble_eq_true rfl, Nat.le_of_ble_eq_true rfl⟩ (fun x2 hf => ?_)
      refine pz_if_eq hC dX9_isPaid_20 hf (fun _ hf => ?_) (fun _ hf => ?_)
      · refine pz_iconst (v := (0 : Int32)) hC dX9_isPaid_27 (by decide) ?_
        refine pz_sub [] rfl ?_
        exact tX9_isPaid_28 hC hK hf
      · refine pz_sub [] rfl ?_
        exact tX9_isPaid_23 hC hK hf
def fX9_paid_15 (f : pz_H) : Option (Int64 × pz_H) :=
  some (((-1000000000000000) : Int64), f)
theorem tX9_paid_15 {G : pz_G} {C : pz_C} {f : pz_H} {r : (Int64 × pz_H)} (hC : pz_OK G C cX9_paid 3 RX9) (hK : pz_K C (some .long) 6 145 0 0) (hf : fX9_paid_15 f = some r) : pz_W G C 3 15 [] [] f 0 0 (pz_Q G C (some (.long r.1)) r.2 0 0) := by
  unfold fX9_paid_15 at hf
  refine pz_ldc2 hC dX9_paid_15 ck_X9_209 ?_
  exact pz_lretw hC hK dX9_paid_18 hf
def fnX9_paid (f : pz_H) (a0 : Nat) (p1 : Int32) (p2 : Int32) : Option (Int64 × pz_H) :=
  (pz_is f a0 8).bind fun _ =>
  (fnX9_isMonth p1).bind fun x1 =>
  if x1 = 0 then fX9_paid_15 f else
  (fnX9_isPaid f a0 p2).bind fun x2 =>
  if x2 = 0 then fX9_paid_15 f else
  (pz_gR f a0 8 6).bind fun v3 =>
  (pz_gR f a0 8 1).bind fun v4 =>
  (fnX5_prepare f v3 v4).bind fun x5 =>
  (pz_gR x5 a0 8 6).bind fun v6 =>
  (pz_gR x5 a0 8 1).bind fun v7 =>
  (fnX5_paidTo x5 v6 v7 p1 p2).bind fun x8 =>
  some (x8, x5)
theorem mX9_paid {l : Launch} {G : pz_G} {f : pz_H} {a0 : Nat} {p1 : Int32} {p2 : Int32} {r : (Int64 × pz_H)} (hf : fnX9_paid f a0 p1 p2 = some r) : pz_Met l G yX9_paid cX9_paid 3 (some .long) 6 145 0 0 [.ref a0, .int p1, .int p2] f (some (.long r.1)) r.2 ∧ pz_is f a0 8 = some () := by
  unfold fnX9_paid at hf
  obtain ⟨_, h0, hf⟩ := pz_bd hf
  refine ⟨pz_enter (by decide +kernel) (Nat.le_of_ble_eq_true rfl) (fun C hl hC hK hnm => ?_), h0⟩
  subst hl
  refine pz_sub (lv' := [(0, .ref a0), (1, .int p1), (2, .int p2)]) [0, 1, 2] rfl ?_
  refine pz_iload_n hC dX9_paid_0 1 rfl ?_
  refine pz_Si (As := [.int p1]) hC hK dX9_paid_1 py_X9_isMonth ps_X9_isMonth lk_X9_180 hf (fun _ h => mX9_isMonth h) rfl rfl (Nat.le_of_ble_eq_true rfl) ⟨by decide, by decide⟩ ⟨by decide, by decide⟩ (fun x1 hf => ?_)
  refine pz_if_eq hC dX9_paid_4 hf (fun _ hf => ?_) (fun _ hf => ?_)
  · refine pz_sub [] rfl ?_
    exact tX9_paid_15 hC hK hf
  · refine pz_aload_n hC dX9_paid_7 0 rfl ?_
    refine pz_iload_n hC dX9_paid_8 2 rfl ?_
    refine pz_Vi (As := [.int p2]) hC hK dX9_paid_9 py_X9_isPaid pv_X9_isPaid lk_X9_206 hf (fun _ h => mX9_isPaid h) rfl rfl (Nat.le_of_ble_eq_true rfl) ⟨by decide, by decide⟩ ⟨Nat.le_of_ble_eq_true rfl, Nat.le_of_ble_eq_true rfl⟩ (fun x2 hf => ?_)
    refine pz_if_ne hC dX9_paid_12 hf (fun _ hf => ?_) (fun _ hf => ?_)
    · refine pz_aload_n hC dX9_paid_19 0 rfl ?_
      refine pz_getR hC dX9_paid_20 fa_X9_40 hf (fun v3 hf => ?_)
      refine pz_aload_n hC dX9_paid_23 0 rfl ?_
      refine pz_getR hC dX9_paid_24 fa_X9_16 hf (fun v4 hf => ?_)
      refine pz_Vv (As := [.ref v4]) hC hK dX9_paid_27 py_X5_prepare pv_X5_prepare lk_X9_211 hf (fun _ h => mX5_prepare h) rfl rfl (Nat.le_of_ble_eq_true rfl) ⟨by decide, by decide⟩ ⟨Nat.le_of_ble_eq_true rfl, Nat.le_of_ble_eq_true rfl⟩ (fun x5 hf => ?_)
      refine pz_aload_n hC dX9_paid_30 0 rfl ?_
      refine pz_getR hC dX9_paid_31 fa_X9_40 hf (fun v6 hf => ?_)
      refine pz_aload_n hC dX9_paid_34 0 rfl ?_
      refine pz_getR hC dX9_paid_35 fa_X9_16 hf (fun v7 hf => ?_)
      refine pz_iload_n hC dX9_paid_38 1 rfl ?_
      refine pz_iload_n hC dX9_paid_39 2 rfl ?_
      refine pz_Vl (As := [.ref v7, .int p1, .int p2]) hC hK dX9_paid_40 py_X5_paidTo pv_X5_paidTo lk_X9_214 hf (fun _ h => mX5_paidTo h) rfl rfl (Nat.le_of_ble_eq_true rfl) ⟨by decide, by decide⟩ ⟨Nat.le_of_ble_eq_true rfl, Nat.le_of_ble_eq_true rfl⟩ (fun x8 hf => ?_)
      exact pz_lretw hC hK dX9_paid_43 hf
    · refine pz_sub [] rfl ?_
      exact tX9_paid_15 hC hK hf
def fX9_sum_27 (f : pz_H) : Option (Int64 × pz_H) :=
  some (((-1000000000000000) : Int64), f)
theorem tX9_sum_27 {G : pz_G} {C : pz_C} {f : pz_H} {r : (Int64 × pz_H)} (hC : pz_OK G C cX9_sum 4 RX9) (hK : pz_K C (some .long) 7 172 0 0) (hf : fX9_sum_27 f = some r) : pz_W G C 4 27 [] [] f 0 0 (pz_Q G C (some (.long r.1)) r.2 0 0) := by
  unfold fX9_sum_27 at hf
  refine pz_ldc2 hC dX9_sum_27 ck_X9_209 ?_
  exact pz_lretw hC hK dX9_sum_30 hf
def fnX9_sum (f : pz_H) (a0 : Nat) (p1 : Int32) (p2 : Int32) (p3 : Int32) : Option (Int64 × pz_H) :=
  (pz_is f a0 8).bind fun _ =>
  (fnX9_isMonth p2).bind fun x1 =>
  if x1 = 0 then fX9_sum_27 f else
  (fnX9_isMonth p3).bind fun x2 =>
  if x2 = 0 then fX9_sum_27 f else
  if p3 < p2 then fX9_sum_27 f else
  (fnX9_isPaid f a0 p1).bind fun x3 =>
  if x3 = 0 then fX9_sum_27 f else
  (pz_gR f a0 8 6).bind fun v4 =>
  (pz_gR f a0 8 1).bind fun v5 =>
  (fnX5_prepare f v4 v5).bind fun x6 =>
  (pz_gR x6 a0 8 6).bind fun v7 =>
  (pz_gR x6 a0 8 1).bind fun v8 =>
  (fnX5_paidWithin x6 v7 v8 p1 p2 p3).bind fun x9 =>
  some (x9, x6)
theorem mX9_sum {l : Launch} {G : pz_G} {f : pz_H} {a0 : Nat} {p1 : Int32} {p2 : Int32} {p3 : Int32} {r : (Int64 × pz_H)} (hf : fnX9_sum f a0 p1 p2 p3 = some r) : pz_Met l G yX9_sum cX9_sum 4 (some .long) 7 172 0 0 [.ref a0, .int p1, .int p2, .int p3] f (some (.long r.1)) r.2 ∧ pz_is f a0 8 = some () := by
  unfold fnX9_sum at hf
  obtain ⟨_, h0, hf⟩ := pz_bd hf
  refine ⟨pz_enter (by decide +kernel) (Nat.le_of_ble_eq_true rfl) (fun C hl hC hK hnm => ?_), h0⟩
  subst hl
  refine pz_sub (lv' := [(0, .ref a0), (1, .int p1), (2, .int p2), (3, .int p3)]) [0, 1, 2, 3] rfl ?_
  refine pz_iload_n hC dX9_sum_0 2 rfl ?_
  refine pz_Si (As := [.int p2]) hC hK dX9_sum_1 py_X9_isMonth ps_X9_isMonth lk_X9_180 hf (fun _ h => mX9_isMonth h) rfl rfl (Nat.le_of_ble_eq_true rfl) ⟨by decide, by decide⟩ ⟨by decide, by decide⟩ (fun x1 hf => ?_)
  refine pz_if_eq hC dX9_sum_4 hf (fun _ hf => ?_) (fun _ hf => ?_)
  · refine pz_sub [] rfl ?_
    exact tX9_sum_27 hC hK hf
  · refine pz_iload_n hC dX9_sum_7 3 rfl ?_
    refine pz_Si (As := [.int p3]) hC hK dX9_sum_8 py_X9_isMonth ps_X9_isMonth lk_X9_180 hf (fun _ h => mX9_isMonth h) rfl rfl (Nat.le_of_ble_eq_true rfl) ⟨by decide, by decide⟩ ⟨by decide, by decide⟩ (fun x2 hf => ?_)
    refine pz_if_eq hC dX9_sum_11 hf (fun _ hf => ?_) (fun _ hf => ?_)
    · refine pz_sub [] rfl ?_
      exact tX9_sum_27 hC hK hf
    · refine pz_iload_n hC dX9_sum_14 2 rfl ?_
      refine pz_iload_n hC dX9_sum_15 3 rfl ?_
      refine pz_icmp_gt hC dX9_sum_16 hf (fun _ hf => ?_) (fun _ hf => ?_)
      · refine pz_sub [] rfl ?_
        exact tX9_sum_27 hC hK hf
      · refine pz_aload_n hC dX9_sum_19 0 rfl ?_
        refine pz_iload_n hC dX9_sum_20 1 rfl ?_
        refine pz_Vi (As := [.int p1]) hC hK dX9_sum_21 py_X9_isPaid pv_X9_isPaid lk_X9_206 hf (fun _ h => mX9_isPaid h) rfl rfl (Nat.le_of_ble_eq_true rfl) ⟨by decide, by decide⟩ ⟨Nat.le_of_ble_eq_true rfl, Nat.le_of_ble_eq_true rfl⟩ (fun x3 hf => ?_)
        refine pz_if_ne hC dX9_sum_24 hf (fun _ hf => ?_) (fun _ hf => ?_)
        · refine pz_aload_n hC dX9_sum_31 0 rfl ?_
          refine pz_getR hC dX9_sum_32 fa_X9_40 hf (fun v4 hf => ?_)
          refine pz_aload_n hC dX9_sum_35 0 rfl ?_
          refine pz_getR hC dX9_sum_36 fa_X9_16 hf (fun v5 hf => ?_)
          refine pz_Vv (As := [.ref v5]) hC hK dX9_sum_39 py_X5_prepare pv_X5_prepare lk_X9_211 hf (fun _ h => mX5_prepare h) rfl rfl (Nat.le_of_ble_eq_true rfl) ⟨by decide, by decide⟩ ⟨Nat.le_of_ble_eq_true rfl, Nat.le_of_ble_eq_true rfl⟩ (fun x6 hf => ?_)
          refine pz_aload_n hC dX9_sum_42 0 rfl ?_
          refine pz_getR hC dX9_sum_43 fa_X9_40 hf (fun v7 hf => ?_)
          refine pz_aload_n hC dX9_sum_46 0 rfl ?_
          refine pz_getR hC dX9_sum_47 fa_X9_16 hf (fun v8 hf => ?_)
          refine pz_iload_n hC dX9_sum_50 1 rfl ?_
          refine pz_iload_n hC dX9_sum_51 2 rfl ?_
          refine pz_iload_n hC dX9_sum_52 3 rfl ?_
          refine pz_Vl (As := [.ref v8, .int p1, .int p2, .int p3]) hC hK dX9_sum_53 py_X5_paidWithin pv_X5_paidWithin lk_X9_218 hf (fun _ h => mX5_paidWithin h) rfl rfl (Nat.le_of_ble_eq_true rfl) ⟨by decide, by decide⟩ ⟨Nat.le_of_ble_eq_true rfl, Nat.le_of_ble_eq_true rfl⟩ (fun x9 hf => ?_)
          exact pz_lretw hC hK dX9_sum_56 hf
        · refine pz_sub [] rfl ?_
          exact tX9_sum_27 hC hK hf
def fX9_richest_84 (k42 : pz_H → Nat → Int32 → Int32 → Int64 → Int32 → Option (Int32 × pz_H)) (f : pz_H) (l0 : Nat) (l1 : Int32) (l2 : Int32) (l3 : Int64) (l5 : Int32) : Option (Int32 × pz_H) :=
  k42 f l0 l1 l2 l3 ((l5 + 1))
theorem tX9_richest_84 {G : pz_G} {C : pz_C} {f : pz_H} {k42 : pz_H → Nat → Int32 → Int32 → Int64 → Int32 → Option (Int32 × pz_H)} {l0 : Nat} {l1 : Int32} {l2 : Int32} {l3 : Int64} {l5 : Int32} {r : (Int32 × pz_H)} (hC : pz_OK G C cX9_richest 8 RX9) (hK : pz_K C (some .int) 7 172 0 0) (hk42 : ∀ (g : pz_H) (a0 : Nat) (a1 : Int32) (a2 : Int32) (a3 : Int64) (a5 : Int32), k42 g a0 a1 a2 a3 a5 = some r → pz_W G C 8 42 [(0, .ref a0), (1, .int a1), (2, .int a2), (3, .long a3), (5, .int a5)] [] g 0 0 (pz_Q G C (some (.int r.1)) r.2 0 0)) (hf : fX9_richest_84 k42 f l0 l1 l2 l3 l5 = some r) : pz_W G C 8 84 [(0, .ref l0), (1, .int l1), (2, .int l2), (3, .long l3), (5, .int l5)] [] f 0 0 (pz_Q G C (some (.int r.1)) r.2 0 0) := by
  unfold fX9_richest_84 at hf
  refine pz_iinc (v := (l5 + 1)) hC dX9_richest_84 4 rfl rfl (by decide) rfl ?_
  refine pz_goto hC dX9_richest_87 ?_
  refine pz_sub [1, 2, 3, 4, 0] rfl ?_
  exact hk42 _ _ _ _ _ _ hf
def fX9_richest_42b (k42 : pz_H → Nat → Int32 → Int32 → Int64 → Int32 → Option (Int32 × pz_H)) (f : pz_H) (l0 : Nat) (l1 : Int32) (l2 : Int32) (l3 : Int64) (l5 : Int32) : Option (Int32 × pz_H) :=
  (pz_gR f l0 8 1).bind fun v1 =>
  (pz_gI f v1 2 8).bind fun v2 =>
  if v2 ≤ l5 then some (l2, f) else
  (pz_gR f l0 8 6).bind fun v3 =>
  (pz_gR f l0 8 1).bind fun v4 =>
  (fnX5_paidWithin f v3 v4 l5 ((0 : Int32)) l1).bind fun x5 =>
  if (lg_cmp x5 l3) ≤ 0 then fX9_richest_84 k42 f l0 l1 l2 l3 l5 else
  fX9_richest_84 k42 f l0 l1 l5 x5 l5
theorem tX9_richest_42b {G : pz_G} {C : pz_C} {f : pz_H} {k42 : pz_H → Nat → Int32 → Int32 → Int64 → Int32 → Option (Int32 × pz_H)} {l0 : Nat} {l1 : Int32} {l2 : Int32} {l3 : Int64} {l5 : Int32} {r : (Int32 × pz_H)} (hC : pz_OK G C cX9_richest 8 RX9) (hK : pz_K C (some .int) 7 172 0 0) (hk42 : ∀ (g : pz_H) (a0 : Nat) (a1 : Int32) (a2 : Int32) (a3 : Int64) (a5 : Int32), k42 g a0 a1 a2 a3 a5 = some r → pz_W G C 8 42 [(0, .ref a0), (1, .int a1), (2, .int a2), (3, .long a3), (5, .int a5)] [] g 0 0 (pz_Q G C (some (.int r.1)) r.2 0 0)) (hf : fX9_richest_42b k42 f l0 l1 l2 l3 l5 = some r) : pz_W G C 8 42 [(0, .ref l0), (1, .int l1), (2, .int l2), (3, .long l3), (5, .int l5)] [] f 0 0 (pz_Q G C (some (.int r.1)) r.2 0 0) := by
  unfold fX9_richest_42b at hf
  refine pz_iload hC dX9_richest_42 4 rfl ?_
  refine pz_aload_n hC dX9_richest_44 0 rfl ?_
  refine pz_getR hC dX9_richest_45 fa_X9_16 hf (fun v1 hf => ?_)
  refine pz_getI hC dX9_richest_48 fa_X9_95 hf (fun v2 hf => ?_)
  refine pz_icmp_ge hC dX9_richest_51 hf (fun _ hf => ?_) (fun _ hf => ?_)
  · refine pz_iload_n hC dX9_richest_90 2 rfl ?_
    exact pz_iretw hC hK dX9_richest_91 hf
  · refine pz_aload_n hC dX9_richest_54 0 rfl ?_
    refine pz_getR hC dX9_richest_55 fa_X9_40 hf (fun v3 hf => ?_)
    refine pz_aload_n hC dX9_richest_58 0 rfl ?_
    refine pz_getR hC dX9_richest_59 fa_X9_16 hf (fun v4 hf => ?_)
    refine pz_iload hC dX9_richest_62 4 rfl ?_
    refine pz_iconst (v := (0 : Int32)) hC dX9_richest_64 (by decide) ?_
    refine pz_iload_n hC dX9_richest_65 1 rfl ?_
    refine pz_Vl (As := [.ref v4, .int l5, .int (0 : Int32), .int l1]) hC hK dX9_richest_66 py_X5_paidWithin pv_X5_paidWithin lk_X9_218 hf (fun _ h => mX5_paidWithin h) rfl rfl (Nat.le_of_ble_eq_true rfl) ⟨by decide, by decide⟩ ⟨Nat.le_of_ble_eq_true rfl, Nat.le_of_ble_eq_true rfl⟩ (fun x5 hf => ?_)
    refine pz_lstore hC dX9_richest_69 (by decide) rfl ?_
    refine pz_lload hC dX9_richest_71 0 rfl ?_
    refine pz_lload_n hC dX9_richest_73 4 rfl ?_
    refine pz_lcmp hC dX9_richest_74 ?_
    refine pz_if_le hC dX9_richest_75 hf (fun _ hf => ?_) (fun _ hf => ?_)
    · refine pz_sub [1, 2, 3, 4, 5] rfl ?_
      exact tX9_richest_84 hC hK hk42 hf
    · refine pz_lload hC dX9_richest_78 0 rfl ?_
      refine pz_lstore_n hC dX9_richest_80 (by decide) rfl ?_
      refine pz_iload hC dX9_richest_81 5 rfl ?_
      refine pz_istore_n hC dX9_richest_83 (by decide) rfl ?_
      refine pz_sub [3, 4, 0, 1, 5] rfl ?_
      exact tX9_richest_84 hC hK hk42 hf
def fX9_richest_42 : Nat → pz_H → Nat → Int32 → Int32 → Int64 → Int32 → Option (Int32 × pz_H)
  | 0, _, _, _, _, _, _ => none
  | n + 1, f, l0, l1, l2, l3, l5 => fX9_richest_42b (fX9_richest_42 n) f l0 l1 l2 l3 l5
theorem tX9_richest_42 {G : pz_G} {C : pz_C} {r : (Int32 × pz_H)} (hC : pz_OK G C cX9_richest 8 RX9) (hK : pz_K C (some .int) 7 172 0 0) : ∀ (N : Nat) (f : pz_H) (l0 : Nat) (l1 : Int32) (l2 : Int32) (l3 : Int64) (l5 : Int32), fX9_richest_42 N f l0 l1 l2 l3 l5 = some r → pz_W G C 8 42 [(0, .ref l0), (1, .int l1), (2, .int l2), (3, .long l3), (5, .int l5)] [] f 0 0 (pz_Q G C (some (.int r.1)) r.2 0 0) := by
  intro N
  induction N with
  | zero => intro f l0 l1 l2 l3 l5 hf; cases hf
  | succ N ih => intro f l0 l1 l2 l3 l5 hf; exact tX9_richest_42b hC hK (fun f l0 l1 l2 l3 l5 hf => ih f l0 l1 l2 l3 l5 hf) hf
def fnX9_richest (f : pz_H) (a0 : Nat) (p1 : Int32) : Option (Int32 × pz_H) :=
  (pz_is f a0 8).bind fun _ =>
  (fnX9_isMonth p1).bind fun x1 =>
  if x1 = 0 then some (((-1) : Int32), f) else
  (pz_gR f a0 8 6).bind fun v2 =>
  (pz_gR f a0 8 1).bind fun v3 =>
  (fnX5_prepare f v2 v3).bind fun x4 =>
  (pz_gR x4 a0 8 6).bind fun v5 =>
  (pz_gR x4 a0 8 1).bind fun v6 =>
  (fnX5_paidWithin x4 v5 v6 ((10 : Int32)) ((0 : Int32)) p1).bind fun x7 =>
  fX9_richest_42 pz_F x4 a0 p1 ((10 : Int32)) x7 ((0 : Int32))
theorem mX9_richest {l : Launch} {G : pz_G} {f : pz_H} {a0 : Nat} {p1 : Int32} {r : (Int32 × pz_H)} (hf : fnX9_richest f a0 p1 = some r) : pz_Met l G yX9_richest cX9_richest 8 (some .int) 7 172 0 0 [.ref a0, .int p1] f (some (.int r.1)) r.2 ∧ pz_is f a0 8 = some () := by
  unfold fnX9_richest at hf
  obtain ⟨_, h0, hf⟩ := pz_bd hf
  refine ⟨pz_enter (by decide +kernel) (Nat.le_of_ble_eq_true rfl) (fun C hl hC hK hnm => ?_), h0⟩
  subst hl
  refine pz_sub (lv' := [(0, .ref a0), (1, .int p1)]) [0, 1] rfl ?_
  refine pz_iload_n hC dX9_richest_0 1 rfl ?_
  refine pz_Si (As := [.int p1]) hC hK dX9_richest_1 py_X9_isMonth ps_X9_isMonth lk_X9_180 hf (fun _ h => mX9_isMonth h) rfl rfl (Nat.le_of_ble_eq_true rfl) ⟨by decide, by decide⟩ ⟨by decide, by decide⟩ (fun x1 hf => ?_)
  refine pz_if_ne hC dX9_richest_4 hf (fun _ hf => ?_) (fun _ hf => ?_)
  · refine pz_aload_n hC dX9_richest_9 0 rfl ?_
    refine pz_getR hC dX9_richest_10 fa_X9_40 hf (fun v2 hf => ?_)
    refine pz_aload_n hC dX9_richest_13 0 rfl ?_
    refine pz_getR hC dX9_richest_14 fa_X9_16 hf (fun v3 hf => ?_)
    refine pz_Vv (As := [.ref v3]) hC hK dX9_richest_17 py_X5_prepare pv_X5_prepare lk_X9_211 hf (fun _ h => mX5_prepare h) rfl rfl (Nat.le_of_ble_eq_true rfl) ⟨by decide, by decide⟩ ⟨Nat.le_of_ble_eq_true rfl, Nat.le_of_ble_eq_true rfl⟩ (fun x4 hf => ?_)
    refine pz_bipush (v := (10 : Int32)) hC dX9_richest_20 (by decide) ?_
    refine pz_istore_n hC dX9_richest_22 (by decide) rfl ?_
    refine pz_aload_n hC dX9_richest_23 1 rfl ?_
    refine pz_getR hC dX9_richest_24 fa_X9_40 hf (fun v5 hf => ?_)
    refine pz_aload_n hC dX9_richest_27 1 rfl ?_
    refine pz_getR hC dX9_richest_28 fa_X9_16 hf (fun v6 hf => ?_)
    refine pz_bipush (v := (10 : Int32)) hC dX9_richest_31 (by decide) ?_
    refine pz_iconst (v := (0 : Int32)) hC dX9_richest_33 (by decide) ?_
    refine pz_iload_n hC dX9_richest_34 2 rfl ?_
    refine pz_Vl (As := [.ref v6, .int (10 : Int32), .int (0 : Int32), .int p1]) hC hK dX9_richest_35 py_X5_paidWithin pv_X5_paidWithin lk_X9_218 hf (fun _ h => mX5_paidWithin h) rfl rfl (Nat.le_of_ble_eq_true rfl) ⟨by decide, by decide⟩ ⟨Nat.le_of_ble_eq_true rfl, Nat.le_of_ble_eq_true rfl⟩ (fun x7 hf => ?_)
    refine pz_lstore_n hC dX9_richest_38 (by decide) rfl ?_
    refine pz_iconst (v := (0 : Int32)) hC dX9_richest_39 (by decide) ?_
    refine pz_istore hC dX9_richest_40 (by decide) rfl ?_
    refine pz_sub [3, 4, 2, 1, 0] rfl ?_
    exact tX9_richest_42 hC hK _ _ _ _ _ _ _ hf
  · refine pz_iconst (v := ((-1) : Int32)) hC dX9_richest_7 (by decide) ?_
    exact pz_iretw hC hK dX9_richest_8 hf
def fX9_happens_39 (f : pz_H) (s0 : Int32) : Option (Int32 × pz_H) :=
  some (s0, f)
theorem tX9_happens_39 {G : pz_G} {C : pz_C} {f : pz_H} {s0 : Int32} {r : (Int32 × pz_H)} (hC : pz_OK G C cX9_happens 2 RX9) (hK : pz_K C (some .int) 3 67 0 0) (hf : fX9_happens_39 f s0 = some r) : pz_W G C 2 39 [] [.int s0] f 0 0 (pz_Q G C (some (.int r.1)) r.2 0 0) := by
  unfold fX9_happens_39 at hf
  exact pz_iretw hC hK dX9_happens_39 hf
def fX9_happens_38 (f : pz_H) : Option (Int32 × pz_H) :=
  fX9_happens_39 f (((-1) : Int32))
theorem tX9_happens_38 {G : pz_G} {C : pz_C} {f : pz_H} {r : (Int32 × pz_H)} (hC : pz_OK G C cX9_happens 2 RX9) (hK : pz_K C (some .int) 3 67 0 0) (hf : fX9_happens_38 f = some r) : pz_W G C 2 38 [] [] f 0 0 (pz_Q G C (some (.int r.1)) r.2 0 0) := by
  unfold fX9_happens_38 at hf
  refine pz_iconst (v := ((-1) : Int32)) hC dX9_happens_38 (by decide) ?_
  exact tX9_happens_39 hC hK hf
def fnX9_happens (f : pz_H) (a0 : Nat) (p1 : Int32) : Option (Int32 × pz_H) :=
  (pz_is f a0 8).bind fun _ =>
  (pz_gR f a0 8 7).bind fun v1 =>
  (pz_gR f a0 8 1).bind fun v2 =>
  (fnX1_fill f v1 v2).bind fun x3 =>
  if p1 < 0 then fX9_happens_38 x3 else
  (pz_gR x3 a0 8 7).bind fun v4 =>
  (pz_gI x3 v4 0 1).bind fun v5 =>
  if v5 ≤ p1 then fX9_happens_38 x3 else
  (pz_gR x3 a0 8 7).bind fun v6 =>
  (pz_gR x3 v6 0 0).bind fun v7 =>
  (pz_aI x3 v7 0 p1).bind fun v8 =>
  fX9_happens_39 x3 v8
theorem mX9_happens {l : Launch} {G : pz_G} {f : pz_H} {a0 : Nat} {p1 : Int32} {r : (Int32 × pz_H)} (hf : fnX9_happens f a0 p1 = some r) : pz_Met l G yX9_happens cX9_happens 2 (some .int) 3 67 0 0 [.ref a0, .int p1] f (some (.int r.1)) r.2 ∧ pz_is f a0 8 = some () := by
  unfold fnX9_happens at hf
  obtain ⟨_, h0, hf⟩ := pz_bd hf
  refine ⟨pz_enter (by decide +kernel) (Nat.le_of_ble_eq_true rfl) (fun C hl hC hK hnm => ?_), h0⟩
  subst hl
  refine pz_sub (lv' := [(0, .ref a0), (1, .int p1)]) [0, 1] rfl ?_
  refine pz_aload_n hC dX9_happens_0 0 rfl ?_
  refine pz_getR hC dX9_happens_1 fa_X9_47 hf (fun v1 hf => ?_)
  refine pz_aload_n hC dX9_happens_4 0 rfl ?_
  refine pz_getR hC dX9_happens_5 fa_X9_16 hf (fun v2 hf => ?_)
  refine pz_Vv (As := [.ref v2]) hC hK dX9_happens_8 py_X1_fill pv_X1_fill lk_X9_222 hf (fun _ h => mX1_fill h) rfl rfl (Nat.le_of_ble_eq_true rfl) ⟨by decide, by decide⟩ ⟨Nat.le_of_ble_eq_true rfl, Nat.le_of_ble_eq_true rfl⟩ (fun x3 hf => ?_)
  refine pz_iload_n hC dX9_happens_11 1 rfl ?_
  refine pz_if_lt hC dX9_happens_12 hf (fun _ hf => ?_) (fun _ hf => ?_)
  · refine pz_sub [] rfl ?_
    exact tX9_happens_38 hC hK hf
  · refine pz_iload_n hC dX9_happens_15 1 rfl ?_
    refine pz_aload_n hC dX9_happens_16 0 rfl ?_
    refine pz_getR hC dX9_happens_17 fa_X9_47 hf (fun v4 hf => ?_)
    refine pz_getI hC dX9_happens_20 fa_X9_225 hf (fun v5 hf => ?_)
    refine pz_icmp_ge hC dX9_happens_23 hf (fun _ hf => ?_) (fun _ hf => ?_)
    · refine pz_sub [] rfl ?_
      exact tX9_happens_38 hC hK hf
    · refine pz_aload_n hC dX9_happens_26 0 rfl ?_
      refine pz_getR hC dX9_happens_27 fa_X9_47 hf (fun v6 hf => ?_)
      refine pz_getR hC dX9_happens_30 fa_X9_228 hf (fun v7 hf => ?_)
      refine pz_iload_n hC dX9_happens_33 1 rfl ?_
      refine pz_iald hC dX9_happens_34 hf (fun v8 hf => ?_)
      refine pz_goto hC dX9_happens_35 ?_
      refine pz_sub [] rfl ?_
      exact tX9_happens_39 hC hK hf
def fX9_lives_19 (f : pz_H) (s0 : Int32) : Option Int32 :=
  some s0
theorem tX9_lives_19 {G : pz_G} {C : pz_C} {f : pz_H} {s0 : Int32} {r : Int32} (hC : pz_OK G C cX9_lives 2 RX9) (hK : pz_K C (some .int) 1 27 0 0) (hf : fX9_lives_19 f s0 = some r) : pz_W G C 2 19 [] [.int s0] f 0 0 (pz_Q G C (some (.int r)) f 0 0) := by
  unfold fX9_lives_19 at hf
  exact pz_iret hC hK dX9_lives_19 hf
def fnX9_lives (f : pz_H) (a0 : Nat) (p1 : Int32) : Option Int32 :=
  (pz_is f a0 8).bind fun _ =>
  if 0 ≤ p1 then (pz_gR f a0 8 1).bind fun v1 =>
  (pz_gR f v1 2 9).bind fun v2 =>
  (fnX2_livesAt f v2 p1).bind fun x3 =>
  fX9_lives_19 f x3 else
  fX9_lives_19 f (((-1) : Int32))
theorem mX9_lives {l : Launch} {G : pz_G} {f : pz_H} {a0 : Nat} {p1 : Int32} {r : Int32} (hf : fnX9_lives f a0 p1 = some r) : pz_Met l G yX9_lives cX9_lives 2 (some .int) 1 27 0 0 [.ref a0, .int p1] f (some (.int r)) f ∧ pz_is f a0 8 = some () := by
  unfold fnX9_lives at hf
  obtain ⟨_, h0, hf⟩ := pz_bd hf
  refine ⟨pz_enter (by decide +kernel) (Nat.le_of_ble_eq_true rfl) (fun C hl hC hK hnm => ?_), h0⟩
  subst hl
  refine pz_sub (lv' := [(0, .ref a0), (1, .int p1)]) [0, 1] rfl ?_
  refine pz_iload_n hC dX9_lives_0 1 rfl ?_
  refine pz_if_ge hC dX9_lives_1 hf (fun _ hf => ?_) (fun _ hf => ?_)
  · refine pz_aload_n hC dX9_lives_8 0 rfl ?_
    refine pz_getR hC dX9_lives_9 fa_X9_16 hf (fun v1 hf => ?_)
    refine pz_getR hC dX9_lives_12 fa_X9_98 hf (fun v2 hf => ?_)
    refine pz_iload_n hC dX9_lives_15 1 rfl ?_
    refine pz_Vi (As := [.int p1]) hC hK dX9_lives_16 py_X2_livesAt pv_X2_livesAt lk_X9_231 hf (fun _ h => mX2_livesAt h) rfl rfl (Nat.le_of_ble_eq_true rfl) ⟨by decide, by decide⟩ ⟨Nat.le_of_ble_eq_true rfl, Nat.le_of_ble_eq_true rfl⟩ (fun x3 hf => ?_)
    refine pz_sub [] rfl ?_
    exact tX9_lives_19 hC hK hf
  · refine pz_iconst (v := ((-1) : Int32)) hC dX9_lives_4 (by decide) ?_
    refine pz_goto hC dX9_lives_5 ?_
    refine pz_sub [] rfl ?_
    exact tX9_lives_19 hC hK hf
def fnX9_discount (f : pz_H) (a0 : Nat) (p1 : Int32) : Option (Int32 × pz_H) :=
  (pz_is f a0 8).bind fun _ =>
  (fnX9_isMonth p1).bind fun x1 =>
  if x1 = 0 then some (((-1) : Int32), f) else
  (pz_gR f a0 8 6).bind fun v2 =>
  (pz_gR f a0 8 1).bind fun v3 =>
  (fnX5_fillDiscounts f v2 v3).bind fun x4 =>
  (pz_gR x4 a0 8 6).bind fun v5 =>
  (pz_gR x4 v5 4 1).bind fun v6 =>
  (pz_aI x4 v6 0 p1).bind fun v7 =>
  some (v7, x4)
theorem mX9_discount {l : Launch} {G : pz_G} {f : pz_H} {a0 : Nat} {p1 : Int32} {r : (Int32 × pz_H)} (hf : fnX9_discount f a0 p1 = some r) : pz_Met l G yX9_discount cX9_discount 2 (some .int) 1 24 0 0 [.ref a0, .int p1] f (some (.int r.1)) r.2 ∧ pz_is f a0 8 = some () := by
  unfold fnX9_discount at hf
  obtain ⟨_, h0, hf⟩ := pz_bd hf
  refine ⟨pz_enter (by decide +kernel) (Nat.le_of_ble_eq_true rfl) (fun C hl hC hK hnm => ?_), h0⟩
  subst hl
  refine pz_sub (lv' := [(0, .ref a0), (1, .int p1)]) [0, 1] rfl ?_
  refine pz_iload_n hC dX9_discount_0 1 rfl ?_
  refine pz_Si (As := [.int p1]) hC hK dX9_discount_1 py_X9_isMonth ps_X9_isMonth lk_X9_180 hf (fun _ h => mX9_isMonth h) rfl rfl (Nat.le_of_ble_eq_true rfl) ⟨by decide, by decide⟩ ⟨by decide, by decide⟩ (fun x1 hf => ?_)
  refine pz_if_ne hC dX9_discount_4 hf (fun _ hf => ?_) (fun _ hf => ?_)
  · refine pz_aload_n hC dX9_discount_9 0 rfl ?_
    refine pz_getR hC dX9_discount_10 fa_X9_40 hf (fun v2 hf => ?_)
    refine pz_aload_n hC dX9_discount_13 0 rfl ?_
    refine pz_getR hC dX9_discount_14 fa_X9_16 hf (fun v3 hf => ?_)
    refine pz_Vv (As := [.ref v3]) hC hK dX9_discount_17 py_X5_fillDiscounts pv_X5_fillDiscounts lk_X9_235 hf (fun _ h => mX5_fillDiscounts h) rfl rfl (Nat.le_of_ble_eq_true rfl) ⟨by decide, by decide⟩ ⟨Nat.le_of_ble_eq_true rfl, Nat.le_of_ble_eq_true rfl⟩ (fun x4 hf => ?_)
    refine pz_aload_n hC dX9_discount_20 0 rfl ?_
    refine pz_getR hC dX9_discount_21 fa_X9_40 hf (fun v5 hf => ?_)
    refine pz_getR hC dX9_discount_24 fa_X9_238 hf (fun v6 hf => ?_)
    refine pz_iload_n hC dX9_discount_27 1 rfl ?_
    refine pz_iald hC dX9_discount_28 hf (fun v7 hf => ?_)
    exact pz_iretw hC hK dX9_discount_29 hf
  · refine pz_iconst (v := ((-1) : Int32)) hC dX9_discount_7 (by decide) ?_
    exact pz_iretw hC hK dX9_discount_8 hf
def fX9_annuity_19 (f : pz_H) : Option (Int64 × pz_H) :=
  some (((-1) : Int64), f)
theorem tX9_annuity_19 {G : pz_G} {C : pz_C} {f : pz_H} {r : (Int64 × pz_H)} (hC : pz_OK G C cX9_annuity 5 RX9) (hK : pz_K C (some .long) 3 79 0 0) (hf : fX9_annuity_19 f = some r) : pz_W G C 5 19 [] [] f 0 0 (pz_Q G C (some (.long r.1)) r.2 0 0) := by
  unfold fX9_annuity_19 at hf
  refine pz_ldc2 hC dX9_annuity_19 ck_X9_241 ?_
  exact pz_lretw hC hK dX9_annuity_22 hf
def fX9_annuity_101 (f : pz_H) (s0 : Int64) : Option (Int64 × pz_H) :=
  some (s0, f)
theorem tX9_annuity_101 {G : pz_G} {C : pz_C} {f : pz_H} {s0 : Int64} {r : (Int64 × pz_H)} (hC : pz_OK G C cX9_annuity 5 RX9) (hK : pz_K C (some .long) 3 79 0 0) (hf : fX9_annuity_101 f s0 = some r) : pz_W G C 5 101 [] [.long s0] f 0 0 (pz_Q G C (some (.long r.1)) r.2 0 0) := by
  unfold fX9_annuity_101 at hf
  exact pz_lretw hC hK dX9_annuity_101 hf
def fX9_annuity_72 (f : pz_H) (l0 : Nat) (l2 : Int32) (l3 : Int32) (s0 : Int32) : Option (Int64 × pz_H) :=
  if s0 ≤ l2 then (pz_gR f l0 8 6).bind fun v1 =>
  (pz_gR f l0 8 1).bind fun v2 =>
  (fnX5_annuityOf f v1 v2 s0 l2 l3).bind fun x3 =>
  fX9_annuity_101 x3.2 x3.1 else
  fX9_annuity_101 f (((-1) : Int64))
theorem tX9_annuity_72 {G : pz_G} {C : pz_C} {f : pz_H} {l0 : Nat} {l2 : Int32} {l3 : Int32} {s0 : Int32} {r : (Int64 × pz_H)} (hC : pz_OK G C cX9_annuity 5 RX9) (hK : pz_K C (some .long) 3 79 0 0) (hf : fX9_annuity_72 f l0 l2 l3 s0 = some r) : pz_W G C 5 72 [(0, .ref l0), (2, .int l2), (3, .int l3)] [.int s0] f 0 0 (pz_Q G C (some (.long r.1)) r.2 0 0) := by
  unfold fX9_annuity_72 at hf
  refine pz_istore hC dX9_annuity_72 (by decide) rfl ?_
  refine pz_iload hC dX9_annuity_74 0 rfl ?_
  refine pz_iload_n hC dX9_annuity_76 2 rfl ?_
  refine pz_icmp_le hC dX9_annuity_77 hf (fun _ hf => ?_) (fun _ hf => ?_)
  · refine pz_aload_n hC dX9_annuity_86 1 rfl ?_
    refine pz_getR hC dX9_annuity_87 fa_X9_40 hf (fun v1 hf => ?_)
    refine pz_aload_n hC dX9_annuity_90 1 rfl ?_
    refine pz_getR hC dX9_annuity_91 fa_X9_16 hf (fun v2 hf => ?_)
    refine pz_iload hC dX9_annuity_94 0 rfl ?_
    refine pz_iload_n hC dX9_annuity_96 2 rfl ?_
    refine pz_iload_n hC dX9_annuity_97 3 rfl ?_
    refine pz_Vlw (As := [.ref v2, .int s0, .int l2, .int l3]) hC hK dX9_annuity_98 py_X5_annuityOf pv_X5_annuityOf lk_X9_243 hf (fun _ h => mX5_annuityOf h) rfl rfl (Nat.le_of_ble_eq_true rfl) ⟨by decide, by decide⟩ ⟨Nat.le_of_ble_eq_true rfl, Nat.le_of_ble_eq_true rfl⟩ (fun x3 hf => ?_)
    refine pz_sub [] rfl ?_
    exact tX9_annuity_101 hC hK hf
  · refine pz_ldc2 hC dX9_annuity_80 ck_X9_241 ?_
    refine pz_goto hC dX9_annuity_83 ?_
    refine pz_sub [] rfl ?_
    exact tX9_annuity_101 hC hK hf
def fX9_annuity_44 (f : pz_H) (l0 : Nat) (l1 : Int32) (l2 : Int32) (l3 : Int32) : Option (Int64 × pz_H) :=
  if l1 = (10 : Int32) then (pz_gR f l0 8 1).bind fun v5 =>
  (pz_gI f v5 2 0).bind fun v6 =>
  fX9_annuity_72 f l0 l2 l3 v6 else
  (pz_gR f l0 8 1).bind fun v1 =>
  (pz_gR f v1 2 7).bind fun v2 =>
  (pz_aR f v2 4 l1).bind fun v3 =>
  (pz_gI f v3 6 0).bind fun v4 =>
  fX9_annuity_72 f l0 l2 l3 v4
theorem tX9_annuity_44 {G : pz_G} {C : pz_C} {f : pz_H} {l0 : Nat} {l1 : Int32} {l2 : Int32} {l3 : Int32} {r : (Int64 × pz_H)} (hC : pz_OK G C cX9_annuity 5 RX9) (hK : pz_K C (some .long) 3 79 0 0) (hf : fX9_annuity_44 f l0 l1 l2 l3 = some r) : pz_W G C 5 44 [(0, .ref l0), (1, .int l1), (2, .int l2), (3, .int l3)] [] f 0 0 (pz_Q G C (some (.long r.1)) r.2 0 0) := by
  unfold fX9_annuity_44 at hf
  refine pz_iload_n hC dX9_annuity_44 1 rfl ?_
  refine pz_bipush (v := (10 : Int32)) hC dX9_annuity_45 (by decide) ?_
  refine pz_icmp_ne hC dX9_annuity_47 hf (fun _ hf => ?_) (fun _ hf => ?_)
  · refine pz_aload_n hC dX9_annuity_60 0 rfl ?_
    refine pz_getR hC dX9_annuity_61 fa_X9_16 hf (fun v1 hf => ?_)
    refine pz_getR hC dX9_annuity_64 fa_X9_145 hf (fun v2 hf => ?_)
    refine pz_iload_n hC dX9_annuity_67 1 rfl ?_
    refine pz_aald hC dX9_annuity_68 (fun _ => rfl) (by decide) hf (fun v3 hf => ?_)
    refine pz_getI hC dX9_annuity_69 fa_X9_149 hf (fun v4 hf => ?_)
    refine pz_sub [0, 2, 3] rfl ?_
    exact tX9_annuity_72 hC hK hf
  · refine pz_aload_n hC dX9_annuity_50 0 rfl ?_
    refine pz_getR hC dX9_annuity_51 fa_X9_16 hf (fun v5 hf => ?_)
    refine pz_getI hC dX9_annuity_54 fa_X9_107 hf (fun v6 hf => ?_)
    refine pz_goto hC dX9_annuity_57 ?_
    refine pz_sub [0, 2, 3] rfl ?_
    exact tX9_annuity_72 hC hK hf
def fnX9_annuity (f : pz_H) (a0 : Nat) (p1 : Int32) (p2 : Int32) (p3 : Int32) : Option (Int64 × pz_H) :=
  (pz_is f a0 8).bind fun _ =>
  (fnX9_isMonth p2).bind fun x1 =>
  if x1 = 0 then fX9_annuity_19 f else
  (fnX9_isMonth p3).bind fun x2 =>
  if x2 = 0 then fX9_annuity_19 f else
  if p2 ≤ p3 then if p1 = (10 : Int32) then fX9_annuity_44 f a0 p1 p2 p3 else
  (pz_gR f a0 8 1).bind fun v3 =>
  (fnX3_hasSpouse f v3 p1).bind fun x4 =>
  if x4 = 0 then some (((-1) : Int64), f) else
  fX9_annuity_44 f a0 p1 p2 p3 else
  fX9_annuity_19 f
theorem mX9_annuity {l : Launch} {G : pz_G} {f : pz_H} {a0 : Nat} {p1 : Int32} {p2 : Int32} {p3 : Int32} {r : (Int64 × pz_H)} (hf : fnX9_annuity f a0 p1 p2 p3 = some r) : pz_Met l G yX9_annuity cX9_annuity 5 (some .long) 3 79 0 0 [.ref a0, .int p1, .int p2, .int p3] f (some (.long r.1)) r.2 ∧ pz_is f a0 8 = some () := by
  unfold fnX9_annuity at hf
  obtain ⟨_, h0, hf⟩ := pz_bd hf
  refine ⟨pz_enter (by decide +kernel) (Nat.le_of_ble_eq_true rfl) (fun C hl hC hK hnm => ?_), h0⟩
  subst hl
  refine pz_sub (lv' := [(0, .ref a0), (1, .int p1), (2, .int p2), (3, .int p3)]) [0, 1, 2, 3] rfl ?_
  refine pz_iload_n hC dX9_annuity_0 2 rfl ?_
  refine pz_Si (As := [.int p2]) hC hK dX9_annuity_1 py_X9_isMonth ps_X9_isMonth lk_X9_180 hf (fun _ h => mX9_isMonth h) rfl rfl (Nat.le_of_ble_eq_true rfl) ⟨by decide, by decide⟩ ⟨by decide, by decide⟩ (fun x1 hf => ?_)
  refine pz_if_eq hC dX9_annuity_4 hf (fun _ hf => ?_) (fun _ hf => ?_)
  · refine pz_sub [] rfl ?_
    exact tX9_annuity_19 hC hK hf
  · refine pz_iload_n hC dX9_annuity_7 3 rfl ?_
    refine pz_Si (As := [.int p3]) hC hK dX9_annuity_8 py_X9_isMonth ps_X9_isMonth lk_X9_180 hf (fun _ h => mX9_isMonth h) rfl rfl (Nat.le_of_ble_eq_true rfl) ⟨by decide, by decide⟩ ⟨by decide, by decide⟩ (fun x2 hf => ?_)
    refine pz_if_eq hC dX9_annuity_11 hf (fun _ hf => ?_) (fun _ hf => ?_)
    · refine pz_sub [] rfl ?_
      exact tX9_annuity_19 hC hK hf
    · refine pz_iload_n hC dX9_annuity_14 3 rfl ?_
      refine pz_iload_n hC dX9_annuity_15 2 rfl ?_
      refine pz_icmp_ge hC dX9_annuity_16 hf (fun _ hf => ?_) (fun _ hf => ?_)
      · refine pz_iload_n hC dX9_annuity_23 1 rfl ?_
        refine pz_bipush (v := (10 : Int32)) hC dX9_annuity_24 (by decide) ?_
        refine pz_icmp_eq hC dX9_annuity_26 hf (fun _ hf => ?_) (fun _ hf => ?_)
        · exact tX9_annuity_44 hC hK hf
        · refine pz_aload_n hC dX9_annuity_29 0 rfl ?_
          refine pz_getR hC dX9_annuity_30 fa_X9_16 hf (fun v3 hf => ?_)
          refine pz_iload_n hC dX9_annuity_33 1 rfl ?_
          refine pz_Vi (As := [.int p1]) hC hK dX9_annuity_34 py_X3_hasSpouse pv_X3_hasSpouse lk_X9_140 hf (fun _ h => mX3_hasSpouse h) rfl rfl (Nat.le_of_ble_eq_true rfl) ⟨by decide, by decide⟩ ⟨Nat.le_of_ble_eq_true rfl, Nat.le_of_ble_eq_true rfl⟩ (fun x4 hf => ?_)
          refine pz_if_ne hC dX9_annuity_37 hf (fun _ hf => ?_) (fun _ hf => ?_)
          · exact tX9_annuity_44 hC hK hf
          · refine pz_ldc2 hC dX9_annuity_40 ck_X9_241 ?_
            exact pz_lretw hC hK dX9_annuity_43 hf
      · refine pz_sub [] rfl ?_
        exact tX9_annuity_19 hC hK hf
def fX9_own_22 (f : pz_H) : Option (Int64 × pz_H) :=
  some (((-1) : Int64), f)
theorem tX9_own_22 {G : pz_G} {C : pz_C} {f : pz_H} {r : (Int64 × pz_H)} (hC : pz_OK G C cX9_own 2 RX9) (hK : pz_K C (some .long) 4 105 0 0) (hf : fX9_own_22 f = some r) : pz_W G C 2 22 [] [] f 0 0 (pz_Q G C (some (.long r.1)) r.2 0 0) := by
  unfold fX9_own_22 at hf
  refine pz_ldc2 hC dX9_own_22 ck_X9_241 ?_
  exact pz_lretw hC hK dX9_own_25 hf
def fnX9_own (f : pz_H) (a0 : Nat) (p1 : Int32) : Option (Int64 × pz_H) :=
  (pz_is f a0 8).bind fun _ =>
  (pz_gR f a0 8 1).bind fun v1 =>
  (fnX3_hasSpouse f v1 p1).bind fun x2 =>
  if x2 = 0 then fX9_own_22 f else
  (pz_gR f a0 8 1).bind fun v3 =>
  (pz_gI f v3 2 1).bind fun v4 =>
  if v4 = ((-1) : Int32) then fX9_own_22 f else
  (pz_gR f a0 8 6).bind fun v5 =>
  (pz_gR f a0 8 1).bind fun v6 =>
  (pz_gR f a0 8 1).bind fun v7 =>
  (pz_gR f v7 2 7).bind fun v8 =>
  (pz_aR f v8 4 p1).bind fun v9 =>
  (fnX5_ownOf f v5 v6 v9).bind fun x10 =>
  some (x10.1, x10.2)
theorem mX9_own {l : Launch} {G : pz_G} {f : pz_H} {a0 : Nat} {p1 : Int32} {r : (Int64 × pz_H)} (hf : fnX9_own f a0 p1 = some r) : pz_Met l G yX9_own cX9_own 2 (some .long) 4 105 0 0 [.ref a0, .int p1] f (some (.long r.1)) r.2 ∧ pz_is f a0 8 = some () := by
  unfold fnX9_own at hf
  obtain ⟨_, h0, hf⟩ := pz_bd hf
  refine ⟨pz_enter (by decide +kernel) (Nat.le_of_ble_eq_true rfl) (fun C hl hC hK hnm => ?_), h0⟩
  subst hl
  refine pz_sub (lv' := [(0, .ref a0), (1, .int p1)]) [0, 1] rfl ?_
  refine pz_aload_n hC dX9_own_0 0 rfl ?_
  refine pz_getR hC dX9_own_1 fa_X9_16 hf (fun v1 hf => ?_)
  refine pz_iload_n hC dX9_own_4 1 rfl ?_
  refine pz_Vi (As := [.int p1]) hC hK dX9_own_5 py_X3_hasSpouse pv_X3_hasSpouse lk_X9_140 hf (fun _ h => mX3_hasSpouse h) rfl rfl (Nat.le_of_ble_eq_true rfl) ⟨by decide, by decide⟩ ⟨Nat.le_of_ble_eq_true rfl, Nat.le_of_ble_eq_true rfl⟩ (fun x2 hf => ?_)
  refine pz_if_eq hC dX9_own_8 hf (fun _ hf => ?_) (fun _ hf => ?_)
  · refine pz_sub [] rfl ?_
    exact tX9_own_22 hC hK hf
  · refine pz_aload_n hC dX9_own_11 0 rfl ?_
    refine pz_getR hC dX9_own_12 fa_X9_16 hf (fun v3 hf => ?_)
    refine pz_getI hC dX9_own_15 fa_X9_110 hf (fun v4 hf => ?_)
    refine pz_iconst (v := ((-1) : Int32)) hC dX9_own_18 (by decide) ?_
    refine pz_icmp_ne hC dX9_own_19 hf (fun _ hf => ?_) (fun _ hf => ?_)
    · refine pz_aload_n hC dX9_own_26 0 rfl ?_
      refine pz_getR hC dX9_own_27 fa_X9_40 hf (fun v5 hf => ?_)
      refine pz_aload_n hC dX9_own_30 0 rfl ?_
      refine pz_getR hC dX9_own_31 fa_X9_16 hf (fun v6 hf => ?_)
      refine pz_aload_n hC dX9_own_34 0 rfl ?_
      refine pz_getR hC dX9_own_35 fa_X9_16 hf (fun v7 hf => ?_)
      refine pz_getR hC dX9_own_38 fa_X9_145 hf (fun v8 hf => ?_)
      refine pz_iload_n hC dX9_own_41 1 rfl ?_
      refine pz_aald hC dX9_own_42 (fun _ => rfl) (by decide) hf (fun v9 hf => ?_)
      refine pz_Vlw (As := [.ref v6, .ref v9]) hC hK dX9_own_43 py_X5_ownOf pv_X5_ownOf lk_X9_246 hf (fun _ h => mX5_ownOf h) rfl rfl (Nat.le_of_ble_eq_true rfl) ⟨by decide, by decide⟩ ⟨Nat.le_of_ble_eq_true rfl, Nat.le_of_ble_eq_true rfl⟩ (fun x10 hf => ?_)
      exact pz_lretw hC hK dX9_own_46 hf
    · refine pz_sub [] rfl ?_
      exact tX9_own_22 hC hK hf
def fX9_worth_29 (f : pz_H) : Option (Int64 × pz_H) :=
  some (((-1) : Int64), f)
theorem tX9_worth_29 {G : pz_G} {C : pz_C} {f : pz_H} {r : (Int64 × pz_H)} (hC : pz_OK G C cX9_worth 3 RX9) (hK : pz_K C (some .long) 5 131 0 0) (hf : fX9_worth_29 f = some r) : pz_W G C 3 29 [] [] f 0 0 (pz_Q G C (some (.long r.1)) r.2 0 0) := by
  unfold fX9_worth_29 at hf
  refine pz_ldc2 hC dX9_worth_29 ck_X9_241 ?_
  exact pz_lretw hC hK dX9_worth_32 hf
def fX9_worth_79 (f : pz_H) : Option (Int64 × pz_H) :=
  some (((-1) : Int64), f)
theorem tX9_worth_79 {G : pz_G} {C : pz_C} {f : pz_H} {r : (Int64 × pz_H)} (hC : pz_OK G C cX9_worth 3 RX9) (hK : pz_K C (some .long) 5 131 0 0) (hf : fX9_worth_79 f = some r) : pz_W G C 3 79 [] [] f 0 0 (pz_Q G C (some (.long r.1)) r.2 0 0) := by
  unfold fX9_worth_79 at hf
  refine pz_ldc2 hC dX9_worth_79 ck_X9_241 ?_
  exact pz_lretw hC hK dX9_worth_82 hf
def fnX9_worth (f : pz_H) (a0 : Nat) (p1 : Int32) (p2 : Int32) : Option (Int64 × pz_H) :=
  (pz_is f a0 8).bind fun _ =>
  (fnX9_isMonth p2).bind fun x1 =>
  if x1 = 0 then fX9_worth_29 f else
  (pz_gR f a0 8 1).bind fun v2 =>
  (pz_gI f v2 2 1).bind fun v3 =>
  if v3 = ((-1) : Int32) then fX9_worth_29 f else
  (pz_gR f a0 8 1).bind fun v4 =>
  (pz_gI f v4 2 0).bind fun v5 =>
  if v5 ≤ p2 then if p1 = (10 : Int32) then (pz_gR f a0 8 6).bind fun v18 =>
  (pz_gR f a0 8 1).bind fun v19 =>
  (fnX5_worthOfAll f v18 v19 p2).bind fun x20 =>
  some (x20.1, x20.2) else
  (pz_gR f a0 8 1).bind fun v6 =>
  (fnX3_hasSpouse f v6 p1).bind fun x7 =>
  if x7 = 0 then fX9_worth_79 f else
  (pz_gR f a0 8 1).bind fun v8 =>
  (pz_gR f v8 2 7).bind fun v9 =>
  (pz_aR f v9 4 p1).bind fun v10 =>
  (pz_gI f v10 6 0).bind fun v11 =>
  if v11 ≤ p2 then (pz_gR f a0 8 6).bind fun v12 =>
  (pz_gR f a0 8 1).bind fun v13 =>
  (pz_gR f a0 8 1).bind fun v14 =>
  (pz_gR f v14 2 7).bind fun v15 =>
  (pz_aR f v15 4 p1).bind fun v16 =>
  (fnX5_worthOfSpouse f v12 v13 v16 p2).bind fun x17 =>
  some (x17.1, x17.2) else
  fX9_worth_79 f else
  fX9_worth_29 f
theorem mX9_worth {l : Launch} {G : pz_G} {f : pz_H} {a0 : Nat} {p1 : Int32} {p2 : Int32} {r : (Int64 × pz_H)} (hf : fnX9_worth f a0 p1 p2 = some r) : pz_Met l G yX9_worth cX9_worth 3 (some .long) 5 131 0 0 [.ref a0, .int p1, .int p2] f (some (.long r.1)) r.2 ∧ pz_is f a0 8 = some () := by
  unfold fnX9_worth at hf
  obtain ⟨_, h0, hf⟩ := pz_bd hf
  refine ⟨pz_enter (by decide +kernel) (Nat.le_of_ble_eq_true rfl) (fun C hl hC hK hnm => ?_), h0⟩
  subst hl
  refine pz_sub (lv' := [(0, .ref a0), (1, .int p1), (2, .int p2)]) [0, 1, 2] rfl ?_
  refine pz_iload_n hC dX9_worth_0 2 rfl ?_
  refine pz_Si (As := [.int p2]) hC hK dX9_worth_1 py_X9_isMonth ps_X9_isMonth lk_X9_180 hf (fun _ h => mX9_isMonth h) rfl rfl (Nat.le_of_ble_eq_true rfl) ⟨by decide, by decide⟩ ⟨by decide, by decide⟩ (fun x1 hf => ?_)
  refine pz_if_eq hC dX9_worth_4 hf (fun _ hf => ?_) (fun _ hf => ?_)
  · refine pz_sub [] rfl ?_
    exact tX9_worth_29 hC hK hf
  · refine pz_aload_n hC dX9_worth_7 0 rfl ?_
    refine pz_getR hC dX9_worth_8 fa_X9_16 hf (fun v2 hf => ?_)
    refine pz_getI hC dX9_worth_11 fa_X9_110 hf (fun v3 hf => ?_)
    refine pz_iconst (v := ((-1) : Int32)) hC dX9_worth_14 (by decide) ?_
    refine pz_icmp_eq hC dX9_worth_15 hf (fun _ hf => ?_) (fun _ hf => ?_)
    · refine pz_sub [] rfl ?_
      exact tX9_worth_29 hC hK hf
    · refine pz_aload_n hC dX9_worth_18 0 rfl ?_
      refine pz_getR hC dX9_worth_19 fa_X9_16 hf (fun v4 hf => ?_)
      refine pz_getI hC dX9_worth_22 fa_X9_107 hf (fun v5 hf => ?_)
      refine pz_iload_n hC dX9_worth_25 2 rfl ?_
      refine pz_icmp_le hC dX9_worth_26 hf (fun _ hf => ?_) (fun _ hf => ?_)
      · refine pz_iload_n hC dX9_worth_33 1 rfl ?_
        refine pz_bipush (v := (10 : Int32)) hC dX9_worth_34 (by decide) ?_
        refine pz_icmp_ne hC dX9_worth_36 hf (fun _ hf => ?_) (fun _ hf => ?_)
        · refine pz_aload_n hC dX9_worth_52 0 rfl ?_
          refine pz_getR hC dX9_worth_53 fa_X9_16 hf (fun v6 hf => ?_)
          refine pz_iload_n hC dX9_worth_56 1 rfl ?_
          refine pz_Vi (As := [.int p1]) hC hK dX9_worth_57 py_X3_hasSpouse pv_X3_hasSpouse lk_X9_140 hf (fun _ h => mX3_hasSpouse h) rfl rfl (Nat.le_of_ble_eq_true rfl) ⟨by decide, by decide⟩ ⟨Nat.le_of_ble_eq_true rfl, Nat.le_of_ble_eq_true rfl⟩ (fun x7 hf => ?_)
          refine pz_if_eq hC dX9_worth_60 hf (fun _ hf => ?_) (fun _ hf => ?_)
          · refine pz_sub [] rfl ?_
            exact tX9_worth_79 hC hK hf
          · refine pz_aload_n hC dX9_worth_63 0 rfl ?_
            refine pz_getR hC dX9_worth_64 fa_X9_16 hf (fun v8 hf => ?_)
            refine pz_getR hC dX9_worth_67 fa_X9_145 hf (fun v9 hf => ?_)
            refine pz_iload_n hC dX9_worth_70 1 rfl ?_
            refine pz_aald hC dX9_worth_71 (fun _ => rfl) (by decide) hf (fun v10 hf => ?_)
            refine pz_getI hC dX9_worth_72 fa_X9_149 hf (fun v11 hf => ?_)
            refine pz_iload_n hC dX9_worth_75 2 rfl ?_
            refine pz_icmp_le hC dX9_worth_76 hf (fun _ hf => ?_) (fun _ hf => ?_)
            · refine pz_aload_n hC dX9_worth_83 0 rfl ?_
              refine pz_getR hC dX9_worth_84 fa_X9_40 hf (fun v12 hf => ?_)
              refine pz_aload_n hC dX9_worth_87 0 rfl ?_
              refine pz_getR hC dX9_worth_88 fa_X9_16 hf (fun v13 hf => ?_)
              refine pz_aload_n hC dX9_worth_91 0 rfl ?_
              refine pz_getR hC dX9_worth_92 fa_X9_16 hf (fun v14 hf => ?_)
              refine pz_getR hC dX9_worth_95 fa_X9_145 hf (fun v15 hf => ?_)
              refine pz_iload_n hC dX9_worth_98 1 rfl ?_
              refine pz_aald hC dX9_worth_99 (fun _ => rfl) (by decide) hf (fun v16 hf => ?_)
              refine pz_iload_n hC dX9_worth_100 2 rfl ?_
              refine pz_Vlw (As := [.ref v13, .ref v16, .int p2]) hC hK dX9_worth_101 py_X5_worthOfSpouse pv_X5_worthOfSpouse lk_X9_254 hf (fun _ h => mX5_worthOfSpouse h) rfl rfl (Nat.le_of_ble_eq_true rfl) ⟨by decide, by decide⟩ ⟨Nat.le_of_ble_eq_true rfl, Nat.le_of_ble_eq_true rfl⟩ (fun x17 hf => ?_)
              exact pz_lretw hC hK dX9_worth_104 hf
            · refine pz_sub [] rfl ?_
              exact tX9_worth_79 hC hK hf
        · refine pz_aload_n hC dX9_worth_39 0 rfl ?_
          refine pz_getR hC dX9_worth_40 fa_X9_40 hf (fun v18 hf => ?_)
          refine pz_aload_n hC dX9_worth_43 0 rfl ?_
          refine pz_getR hC dX9_worth_44 fa_X9_16 hf (fun v19 hf => ?_)
          refine pz_iload_n hC dX9_worth_47 2 rfl ?_
          refine pz_Vlw (As := [.ref v19, .int p2]) hC hK dX9_worth_48 py_X5_worthOfAll pv_X5_worthOfAll lk_X9_250 hf (fun _ h => mX5_worthOfAll h) rfl rfl (Nat.le_of_ble_eq_true rfl) ⟨by decide, by decide⟩ ⟨Nat.le_of_ble_eq_true rfl, Nat.le_of_ble_eq_true rfl⟩ (fun x20 hf => ?_)
          exact pz_lretw hC hK dX9_worth_51 hf
      · refine pz_sub [] rfl ?_
        exact tX9_worth_29 hC hK hf
