def fX10_begins_2b (k2 : pz_H → Nat → Int32 → Int32 → Option pz_H) (f : pz_H) (l0 : Nat) (l1 : Int32) (l2 : Int32) : Option pz_H :=
  if (87 : Int32) ≤ l2 then (pz_gR f l0 9 1).bind fun v1 =>
  (pz_tI f v1 0 ((0 : Int32)) l1).bind fun f2 =>
  (pz_gR f2 l0 9 1).bind fun v3 =>
  (pz_tI f2 v3 0 ((1 : Int32)) (((-1) : Int32))).bind fun f4 =>
  (pz_gR f4 l0 9 1).bind fun v5 =>
  (pz_tI f4 v5 0 ((2 : Int32)) (((-1) : Int32))).bind fun f6 =>
  (pz_gR f6 l0 9 1).bind fun v7 =>
  (pz_tI f6 v7 0 ((6 : Int32)) ((200 : Int32))).bind fun f8 =>
  (pz_gR f8 l0 9 1).bind fun v9 =>
  (pz_tI f8 v9 0 ((7 : Int32)) ((780 : Int32))).bind fun f10 =>
  (pz_gR f10 l0 9 1).bind fun v11 =>
  (pz_tI f10 v11 0 ((8 : Int32)) ((3 : Int32))).bind fun f12 =>
  (pz_gR f12 l0 9 1).bind fun v13 =>
  (pz_tI f12 v13 0 ((9 : Int32)) ((20 : Int32))).bind fun f14 =>
  (pz_gR f14 l0 9 1).bind fun v15 =>
  (pz_tI f14 v15 0 ((10 : Int32)) ((30 : Int32))).bind fun f16 =>
  some f16 else
  (pz_gR f l0 9 1).bind fun v17 =>
  (pz_tI f v17 0 l2 ((0 : Int32))).bind fun f18 =>
  k2 f18 l0 l1 ((l2 + 1))
theorem tX10_begins_2b {G : pz_G} {C : pz_C} {f : pz_H} {k2 : pz_H → Nat → Int32 → Int32 → Option pz_H} {l0 : Nat} {l1 : Int32} {l2 : Int32} {r : pz_H} (hC : pz_OK G C cX10_begins 3 RX10) (hK : pz_K C none 0 0 0 0) (hk2 : ∀ (g : pz_H) (a0 : Nat) (a1 : Int32) (a2 : Int32), k2 g a0 a1 a2 = some r → pz_W G C 3 2 [(0, .ref a0), (1, .int a1), (2, .int a2)] [] g 0 0 (pz_Q G C none r 0 0)) (hf : fX10_begins_2b k2 f l0 l1 l2 = some r) : pz_W G C 3 2 [(0, .ref l0), (1, .int l1), (2, .int l2)] [] f 0 0 (pz_Q G C none r 0 0) := by
  unfold fX10_begins_2b at hf
  refine pz_iload_n hC dX10_begins_2 2 rfl ?_
  refine pz_bipush (v := (87 : Int32)) hC dX10_begins_3 (by decide) ?_
  refine pz_icmp_ge hC dX10_begins_5 hf (fun _ hf => ?_) (fun _ hf => ?_)
  · refine pz_aload_n hC dX10_begins_21 0 rfl ?_
    refine pz_getR hC dX10_begins_22 fa_X10_7 hf (fun v1 hf => ?_)
    refine pz_iconst (v := (0 : Int32)) hC dX10_begins_25 (by decide) ?_
    refine pz_iload_n hC dX10_begins_26 1 rfl ?_
    refine pz_iast hC dX10_begins_27 hf (fun f2 hf => ?_)
    refine pz_aload_n hC dX10_begins_28 0 rfl ?_
    refine pz_getR hC dX10_begins_29 fa_X10_7 hf (fun v3 hf => ?_)
    refine pz_iconst (v := (1 : Int32)) hC dX10_begins_32 (by decide) ?_
    refine pz_iconst (v := ((-1) : Int32)) hC dX10_begins_33 (by decide) ?_
    refine pz_iast hC dX10_begins_34 hf (fun f4 hf => ?_)
    refine pz_aload_n hC dX10_begins_35 0 rfl ?_
    refine pz_getR hC dX10_begins_36 fa_X10_7 hf (fun v5 hf => ?_)
    refine pz_iconst (v := (2 : Int32)) hC dX10_begins_39 (by decide) ?_
    refine pz_iconst (v := ((-1) : Int32)) hC dX10_begins_40 (by decide) ?_
    refine pz_iast hC dX10_begins_41 hf (fun f6 hf => ?_)
    refine pz_aload_n hC dX10_begins_42 0 rfl ?_
    refine pz_getR hC dX10_begins_43 fa_X10_7 hf (fun v7 hf => ?_)
    refine pz_bipush (v := (6 : Int32)) hC dX10_begins_46 (by decide) ?_
    refine pz_sipush (v := (200 : Int32)) hC dX10_begins_48 (by decide) ?_
    refine pz_iast hC dX10_begins_51 hf (fun f8 hf => ?_)
    refine pz_aload_n hC dX10_begins_52 0 rfl ?_
    refine pz_getR hC dX10_begins_53 fa_X10_7 hf (fun v9 hf => ?_)
    refine pz_bipush (v := (7 : Int32)) hC dX10_begins_56 (by decide) ?_
    refine pz_sipush (v := (780 : Int32)) hC dX10_begins_58 (by decide) ?_
    refine pz_iast hC dX10_begins_61 hf (fun f10 hf => ?_)
    refine pz_aload_n hC dX10_begins_62 0 rfl ?_
    refine pz_getR hC dX10_begins_63 fa_X10_7 hf (fun v11 hf => ?_)
    refine pz_bipush (v := (8 : Int32)) hC dX10_begins_66 (by decide) ?_
    refine pz_iconst (v := (3 : Int32)) hC dX10_begins_68 (by decide) ?_
    refine pz_iast hC dX10_begins_69 hf (fun f12 hf => ?_)
    refine pz_aload_n hC dX10_begins_70 0 rfl ?_
    refine pz_getR hC dX10_begins_71 fa_X10_7 hf (fun v13 hf => ?_)
    refine pz_bipush (v := (9 : Int32)) hC dX10_begins_74 (by decide) ?_
    refine pz_bipush (v := (20 : Int32)) hC dX10_begins_76 (by decide) ?_
    refine pz_iast hC dX10_begins_78 hf (fun f14 hf => ?_)
    refine pz_aload_n hC dX10_begins_79 0 rfl ?_
    refine pz_getR hC dX10_begins_80 fa_X10_7 hf (fun v15 hf => ?_)
    refine pz_bipush (v := (10 : Int32)) hC dX10_begins_83 (by decide) ?_
    refine pz_bipush (v := (30 : Int32)) hC dX10_begins_85 (by decide) ?_
    refine pz_iast hC dX10_begins_87 hf (fun f16 hf => ?_)
    exact pz_vret hC hK dX10_begins_88 hf
  · refine pz_aload_n hC dX10_begins_8 0 rfl ?_
    refine pz_getR hC dX10_begins_9 fa_X10_7 hf (fun v17 hf => ?_)
    refine pz_iload_n hC dX10_begins_12 2 rfl ?_
    refine pz_iconst (v := (0 : Int32)) hC dX10_begins_13 (by decide) ?_
    refine pz_iast hC dX10_begins_14 hf (fun f18 hf => ?_)
    refine pz_iinc (v := (l2 + 1)) hC dX10_begins_15 2 rfl rfl (by decide) rfl ?_
    refine pz_goto hC dX10_begins_18 ?_
    refine pz_sub [1, 2, 0] rfl ?_
    exact hk2 _ _ _ _ hf
def fX10_begins_2 : Nat → pz_H → Nat → Int32 → Int32 → Option pz_H
  | 0, _, _, _, _ => none
  | n + 1, f, l0, l1, l2 => fX10_begins_2b (fX10_begins_2 n) f l0 l1 l2
theorem tX10_begins_2 {G : pz_G} {C : pz_C} {r : pz_H} (hC : pz_OK G C cX10_begins 3 RX10) (hK : pz_K C none 0 0 0 0) : ∀ (N : Nat) (f : pz_H) (l0 : Nat) (l1 : Int32) (l2 : Int32), fX10_begins_2 N f l0 l1 l2 = some r → pz_W G C 3 2 [(0, .ref l0), (1, .int l1), (2, .int l2)] [] f 0 0 (pz_Q G C none r 0 0) := by
  intro N
  induction N with
  | zero => intro f l0 l1 l2 hf; cases hf
  | succ N ih => intro f l0 l1 l2 hf; exact tX10_begins_2b hC hK (fun f l0 l1 l2 hf => ih f l0 l1 l2 hf) hf
def fnX10_begins (f : pz_H) (a0 : Nat) (p1 : Int32) : Option pz_H :=
  (pz_is f a0 9).bind fun _ =>
  fX10_begins_2 pz_F f a0 p1 ((0 : Int32))
theorem mX10_begins {l : Launch} {G : pz_G} {f : pz_H} {a0 : Nat} {p1 : Int32} {r : pz_H} (hf : fnX10_begins f a0 p1 = some r) : pz_Met l G yX10_begins cX10_begins 3 none 0 0 0 0 [.ref a0, .int p1] f none r ∧ pz_is f a0 9 = some () := by
  unfold fnX10_begins at hf
  obtain ⟨_, h0, hf⟩ := pz_bd hf
  refine ⟨pz_enter (by decide +kernel) (Nat.le_of_ble_eq_true rfl) (fun C hl hC hK hnm => ?_), h0⟩
  subst hl
  refine pz_sub (lv' := [(0, .ref a0), (1, .int p1)]) [0, 1] rfl ?_
  refine pz_iconst (v := (0 : Int32)) hC dX10_begins_0 (by decide) ?_
  refine pz_istore_n hC dX10_begins_1 (by decide) rfl ?_
  refine pz_sub [1, 2, 0] rfl ?_
  exact tX10_begins_2 hC hK _ _ _ _ _ hf
def fnX10_init (f : pz_H) (a0 : Nat) : Option pz_H :=
  (pz_sV (pz_nw f (.inr (0, 87, .inl (fun _ => 0)))) a0 9 1 (.ref f.2.2)).bind fun f1 =>
  (pz_sV (pz_nw f1 (.inr (0, 1044, .inl (fun _ => 0)))) a0 9 2 (.ref f1.2.2)).bind fun f2 =>
  (pz_sV (pz_nw f2 (.inr (0, 87, .inl (fun _ => 0)))) a0 9 3 (.ref f2.2.2)).bind fun f3 =>
  (pz_sV (pz_nw f3 (.inr (1, 1800, .inr (.inl (fun _ => 0))))) a0 9 5 (.ref f3.2.2)).bind fun f4 =>
  (pz_sV (pz_nw f4 (.inr (1, 1800, .inr (.inl (fun _ => 0))))) a0 9 7 (.ref f4.2.2)).bind fun f5 =>
  (pz_sV (pz_nw f5 (.inr (1, 1800, .inr (.inl (fun _ => 0))))) a0 9 8 (.ref f5.2.2)).bind fun f6 =>
  (pz_sV (pz_nw f6 (.inr (1, 1800, .inr (.inl (fun _ => 0))))) a0 9 9 (.ref f6.2.2)).bind fun f7 =>
  (pz_sV (pz_nw f7 (.inr (1, 4, .inr (.inl (fun _ => 0))))) a0 9 10 (.ref f7.2.2)).bind fun f8 =>
  (pz_sV (pz_nw f8 (.inr (0, 64, .inl (fun _ => 0)))) a0 9 11 (.ref f8.2.2)).bind fun f9 =>
  (pz_sV (pz_nw f9 (.inr (0, 400, .inl (fun _ => 0)))) a0 9 13 (.ref f9.2.2)).bind fun f10 =>
  (pz_sV (pz_nw f10 (.inr (0, 4, .inl (fun _ => 0)))) a0 9 21 (.ref f10.2.2)).bind fun f11 =>
  (fnX10_begins f11 a0 ((0 : Int32))).bind fun x12 =>
  some x12
theorem mX10_init {l : Launch} {G : pz_G} {f : pz_H} {a0 : Nat} {r : pz_H} (hf : fnX10_init f a0 = some r) : pz_Met l G yX10_init cX10_init 1 none 1 22 11 8890 [.ref a0] f none r := by
  unfold fnX10_init at hf
  refine pz_enter (by decide +kernel) (Nat.le_of_ble_eq_true rfl) (fun C hl hC hK hnm => ?_)
  subst hl
  refine pz_sub (lv' := [(0, .ref a0)]) [0] rfl ?_
  refine pz_aload_n hC dX10_init_0 0 rfl ?_
  refine pz_objInit hC hK dX10_init_1 ol_X10_1 ob_inst ob_code (by decide) (Nat.le_of_ble_eq_true rfl) ?_
  refine pz_aload_n hC dX10_init_4 0 rfl ?_
  refine pz_bipush (v := (87 : Int32)) hC dX10_init_5 (by decide) ?_
  refine pz_newa (atype := .int) (ty := .int) (t := 0) (N := 87) (g := .inl (fun _ => 0)) (n' := 1) (k' := 87) hC hK dX10_init_7 (by decide) ac_0 rfl (fun G U h => (h.2 0 _ rfl).2) (fun G cA h => ⟨(87, .inl (fun _ => 0)), by rw [h]; rfl, rfl⟩) (by decide) (by decide +kernel) (by decide +kernel) rfl rfl ⟨Nat.le_of_ble_eq_true rfl, Nat.le_of_ble_eq_true rfl⟩ ?_
  refine pz_putF hC hnm dX10_init_9 fp_X10_7 (fun q h => by cases h; rfl) rfl rfl rfl hf (fun f1 hf => ?_)
  refine pz_aload_n hC dX10_init_12 0 rfl ?_
  refine pz_sipush (v := (1044 : Int32)) hC dX10_init_13 (by decide) ?_
  refine pz_newa (atype := .int) (ty := .int) (t := 0) (N := 1044) (g := .inl (fun _ => 0)) (n' := 2) (k' := 1131) hC hK dX10_init_16 (by decide) ac_0 rfl (fun G U h => (h.2 0 _ rfl).2) (fun G cA h => ⟨(1044, .inl (fun _ => 0)), by rw [h]; rfl, rfl⟩) (by decide) (by decide +kernel) (by decide +kernel) rfl rfl ⟨Nat.le_of_ble_eq_true rfl, Nat.le_of_ble_eq_true rfl⟩ ?_
  refine pz_putF hC hnm dX10_init_18 fp_X10_13 (fun q h => by cases h; rfl) rfl rfl rfl hf (fun f2 hf => ?_)
  refine pz_aload_n hC dX10_init_21 0 rfl ?_
  refine pz_bipush (v := (87 : Int32)) hC dX10_init_22 (by decide) ?_
  refine pz_newa (atype := .int) (ty := .int) (t := 0) (N := 87) (g := .inl (fun _ => 0)) (n' := 3) (k' := 1218) hC hK dX10_init_24 (by decide) ac_0 rfl (fun G U h => (h.2 0 _ rfl).2) (fun G cA h => ⟨(87, .inl (fun _ => 0)), by rw [h]; rfl, rfl⟩) (by decide) (by decide +kernel) (by decide +kernel) rfl rfl ⟨Nat.le_of_ble_eq_true rfl, Nat.le_of_ble_eq_true rfl⟩ ?_
  refine pz_putF hC hnm dX10_init_26 fp_X10_16 (fun q h => by cases h; rfl) rfl rfl rfl hf (fun f3 hf => ?_)
  refine pz_aload_n hC dX10_init_29 0 rfl ?_
  refine pz_sipush (v := (1800 : Int32)) hC dX10_init_30 (by decide) ?_
  refine pz_newa (atype := .long) (ty := .long) (t := 1) (N := 1800) (g := .inr (.inl (fun _ => 0))) (n' := 4) (k' := 3018) hC hK dX10_init_33 (by decide) ac_1 rfl (fun G U h => (h.2 1 _ rfl).2) (fun G cA h => ⟨(1800, .inr (.inl (fun _ => 0))), by rw [h]; rfl, rfl⟩) (by decide) (by decide +kernel) (by decide +kernel) rfl rfl ⟨Nat.le_of_ble_eq_true rfl, Nat.le_of_ble_eq_true rfl⟩ ?_
  refine pz_putF hC hnm dX10_init_35 fp_X10_19 (fun q h => by cases h; rfl) rfl rfl rfl hf (fun f4 hf => ?_)
  refine pz_aload_n hC dX10_init_38 0 rfl ?_
  refine pz_sipush (v := (1800 : Int32)) hC dX10_init_39 (by decide) ?_
  refine pz_newa (atype := .long) (ty := .long) (t := 1) (N := 1800) (g := .inr (.inl (fun _ => 0))) (n' := 5) (k' := 4818) hC hK dX10_init_42 (by decide) ac_1 rfl (fun G U h => (h.2 1 _ rfl).2) (fun G cA h => ⟨(1800, .inr (.inl (fun _ => 0))), by rw [h]; rfl, rfl⟩) (by decide) (by decide +kernel) (by decide +kernel) rfl rfl ⟨Nat.le_of_ble_eq_true rfl, Nat.le_of_ble_eq_true rfl⟩ ?_
  refine pz_putF hC hnm dX10_init_44 fp_X10_23 (fun q h => by cases h; rfl) rfl rfl rfl hf (fun f5 hf => ?_)
  refine pz_aload_n hC dX10_init_47 0 rfl ?_
  refine pz_sipush (v := (1800 : Int32)) hC dX10_init_48 (by decide) ?_
  refine pz_newa (atype := .long) (ty := .long) (t := 1) (N := 1800) (g := .inr (.inl (fun _ => 0))) (n' := 6) (k' := 6618) hC hK dX10_init_51 (by decide) ac_1 rfl (fun G U h => (h.2 1 _ rfl).2) (fun G cA h => ⟨(1800, .inr (.inl (fun _ => 0))), by rw [h]; rfl, rfl⟩) (by decide) (by decide +kernel) (by decide +kernel) rfl rfl ⟨Nat.le_of_ble_eq_true rfl, Nat.le_of_ble_eq_true rfl⟩ ?_
  refine pz_putF hC hnm dX10_init_53 fp_X10_26 (fun q h => by cases h; rfl) rfl rfl rfl hf (fun f6 hf => ?_)
  refine pz_aload_n hC dX10_init_56 0 rfl ?_
  refine pz_sipush (v := (1800 : Int32)) hC dX10_init_57 (by decide) ?_
  refine pz_newa (atype := .long) (ty := .long) (t := 1) (N := 1800) (g := .inr (.inl (fun _ => 0))) (n' := 7) (k' := 8418) hC hK dX10_init_60 (by decide) ac_1 rfl (fun G U h => (h.2 1 _ rfl).2) (fun G cA h => ⟨(1800, .inr (.inl (fun _ => 0))), by rw [h]; rfl, rfl⟩) (by decide) (by decide +kernel) (by decide +kernel) rfl rfl ⟨Nat.le_of_ble_eq_true rfl, Nat.le_of_ble_eq_true rfl⟩ ?_
  refine pz_putF hC hnm dX10_init_62 fp_X10_29 (fun q h => by cases h; rfl) rfl rfl rfl hf (fun f7 hf => ?_)
  refine pz_aload_n hC dX10_init_65 0 rfl ?_
  refine pz_iconst (v := (4 : Int32)) hC dX10_init_66 (by decide) ?_
  refine pz_newa (atype := .long) (ty := .long) (t := 1) (N := 4) (g := .inr (.inl (fun _ => 0))) (n' := 8) (k' := 8422) hC hK dX10_init_67 (by decide) ac_1 rfl (fun G U h => (h.2 1 _ rfl).2) (fun G cA h => ⟨(4, .inr (.inl (fun _ => 0))), by rw [h]; rfl, rfl⟩) (by decide) (by decide +kernel) (by decide +kernel) rfl rfl ⟨Nat.le_of_ble_eq_true rfl, Nat.le_of_ble_eq_true rfl⟩ ?_
  refine pz_putF hC hnm dX10_init_69 fp_X10_32 (fun q h => by cases h; rfl) rfl rfl rfl hf (fun f8 hf => ?_)
  refine pz_aload_n hC dX10_init_72 0 rfl ?_
  refine pz_bipush (v := (64 : Int32)) hC dX10_init_73 (by decide) ?_
  refine pz_newa (atype := .int) (ty := .int) (t := 0) (N := 64) (g := .inl (fun _ => 0)) (n' := 9) (k' := 8486) hC hK dX10_init_75 (by decide) ac_0 rfl (fun G U h => (h.2 0 _ rfl).2) (fun G cA h => ⟨(64, .inl (fun _ => 0)), by rw [h]; rfl, rfl⟩) (by decide) (by decide +kernel) (by decide +kernel) rfl rfl ⟨Nat.le_of_ble_eq_true rfl, Nat.le_of_ble_eq_true rfl⟩ ?_
  refine pz_putF hC hnm dX10_init_77 fp_X10_35 (fun q h => by cases h; rfl) rfl rfl rfl hf (fun f9 hf => ?_)
  refine pz_aload_n hC dX10_init_80 0 rfl ?_
  refine pz_sipush (v := (400 : Int32)) hC dX10_init_81 (by decide) ?_
  refine pz_newa (atype := .int) (ty := .int) (t := 0) (N := 400) (g := .inl (fun _ => 0)) (n' := 10) (k' := 8886) hC hK dX10_init_84 (by decide) ac_0 rfl (fun G U h => (h.2 0 _ rfl).2) (fun G cA h => ⟨(400, .inl (fun _ => 0)), by rw [h]; rfl, rfl⟩) (by decide) (by decide +kernel) (by decide +kernel) rfl rfl ⟨Nat.le_of_ble_eq_true rfl, Nat.le_of_ble_eq_true rfl⟩ ?_
  refine pz_putF hC hnm dX10_init_86 fp_X10_38 (fun q h => by cases h; rfl) rfl rfl rfl hf (fun f10 hf => ?_)
  refine pz_aload_n hC dX10_init_89 0 rfl ?_
  refine pz_iconst (v := (4 : Int32)) hC dX10_init_90 (by decide) ?_
  refine pz_newa (atype := .int) (ty := .int) (t := 0) (N := 4) (g := .inl (fun _ => 0)) (n' := 11) (k' := 8890) hC hK dX10_init_91 (by decide) ac_0 rfl (fun G U h => (h.2 0 _ rfl).2) (fun G cA h => ⟨(4, .inl (fun _ => 0)), by rw [h]; rfl, rfl⟩) (by decide) (by decide +kernel) (by decide +kernel) rfl rfl ⟨Nat.le_of_ble_eq_true rfl, Nat.le_of_ble_eq_true rfl⟩ ?_
  refine pz_putF hC hnm dX10_init_93 fp_X10_41 (fun q h => by cases h; rfl) rfl rfl rfl hf (fun f11 hf => ?_)
  refine pz_aload_n hC dX10_init_96 0 rfl ?_
  refine pz_iconst (v := (0 : Int32)) hC dX10_init_97 (by decide) ?_
  refine pz_Vv (As := [.int (0 : Int32)]) hC hK dX10_init_98 py_X10_begins pv_X10_begins lk_X10_44 hf (fun _ h => mX10_begins h) rfl rfl (Nat.le_of_ble_eq_true rfl) ⟨by decide, by decide⟩ ⟨Nat.le_of_ble_eq_true rfl, Nat.le_of_ble_eq_true rfl⟩ (fun x12 hf => ?_)
  exact pz_vret hC hK dX10_init_101 hf
def fnX10_thrown (f : pz_H) (a0 : Nat) : Option Int32 :=
  (pz_is f a0 9).bind fun _ =>
  (pz_gI f a0 9 0).bind fun v1 =>
  some v1
theorem mX10_thrown {l : Launch} {G : pz_G} {f : pz_H} {a0 : Nat} {r : Int32} (hf : fnX10_thrown f a0 = some r) : pz_Met l G yX10_thrown cX10_thrown 1 (some .int) 0 0 0 0 [.ref a0] f (some (.int r)) f ∧ pz_is f a0 9 = some () := by
  unfold fnX10_thrown at hf
  obtain ⟨_, h0, hf⟩ := pz_bd hf
  refine ⟨pz_enter (by decide +kernel) (Nat.le_of_ble_eq_true rfl) (fun C hl hC hK hnm => ?_), h0⟩
  subst hl
  refine pz_sub (lv' := [(0, .ref a0)]) [0] rfl ?_
  refine pz_aload_n hC dX10_thrown_0 0 rfl ?_
  refine pz_getI hC dX10_thrown_1 fa_X10_48 hf (fun v1 hf => ?_)
  exact pz_iret hC hK dX10_thrown_4 hf
def fX10_in_15 (s0 : Int32) : Option Int32 :=
  pz_b s0
theorem tX10_in_15 {G : pz_G} {C : pz_C} {f : pz_H} {s0 : Int32} {r : Int32} (hC : pz_OK G C cX10_in 3 RX10) (hK : pz_K C (some .boolean) 0 0 0 0) (hf : fX10_in_15 s0 = some r) : pz_W G C 3 15 [] [.int s0] f 0 0 (pz_Q G C (some (.int r)) f 0 0) := by
  unfold fX10_in_15 at hf
  exact pz_zret hC hK dX10_in_15 hf
def fX10_in_14 : Option Int32 :=
  fX10_in_15 ((0 : Int32))
theorem tX10_in_14 {G : pz_G} {C : pz_C} {f : pz_H} {r : Int32} (hC : pz_OK G C cX10_in 3 RX10) (hK : pz_K C (some .boolean) 0 0 0 0) (hf : fX10_in_14 = some r) : pz_W G C 3 14 [] [] f 0 0 (pz_Q G C (some (.int r)) f 0 0) := by
  unfold fX10_in_14 at hf
  refine pz_iconst (v := (0 : Int32)) hC dX10_in_14 (by decide) ?_
  exact tX10_in_15 hC hK hf
def fnX10_in (p0 : Int32) (p1 : Int32) (p2 : Int32) : Option Int32 :=
  if p0 < p1 then fX10_in_14 else
  if p2 < p0 then fX10_in_14 else
  fX10_in_15 ((1 : Int32))
theorem mX10_in {l : Launch} {G : pz_G} {f : pz_H} {p0 : Int32} {p1 : Int32} {p2 : Int32} {r : Int32} (hf : fnX10_in p0 p1 p2 = some r) : pz_Met l G yX10_in cX10_in 3 (some .boolean) 0 0 0 0 [.int p0, .int p1, .int p2] f (some (.int r)) f := by
  unfold fnX10_in at hf
  refine pz_enter (by decide +kernel) (Nat.le_of_ble_eq_true rfl) (fun C hl hC hK hnm => ?_)
  subst hl
  refine pz_sub (lv' := [(0, .int p0), (1, .int p1), (2, .int p2)]) [0, 1, 2] rfl ?_
  refine pz_iload_n hC dX10_in_0 0 rfl ?_
  refine pz_iload_n hC dX10_in_1 1 rfl ?_
  refine pz_icmp_lt hC dX10_in_2 hf (fun _ hf => ?_) (fun _ hf => ?_)
  · refine pz_sub [] rfl ?_
    exact tX10_in_14 hC hK hf
  · refine pz_iload_n hC dX10_in_5 0 rfl ?_
    refine pz_iload_n hC dX10_in_6 2 rfl ?_
    refine pz_icmp_gt hC dX10_in_7 hf (fun _ hf => ?_) (fun _ hf => ?_)
    · refine pz_sub [] rfl ?_
      exact tX10_in_14 hC hK hf
    · refine pz_iconst (v := (1 : Int32)) hC dX10_in_10 (by decide) ?_
      refine pz_goto hC dX10_in_11 ?_
      refine pz_sub [] rfl ?_
      exact tX10_in_15 hC hK hf
def fnX10_isMonth (p0 : Int32) : Option Int32 :=
  (fnX10_in p0 ((0 : Int32)) ((1799 : Int32))).bind fun x1 =>
  pz_b x1
theorem mX10_isMonth {l : Launch} {G : pz_G} {f : pz_H} {p0 : Int32} {r : Int32} (hf : fnX10_isMonth p0 = some r) : pz_Met l G yX10_isMonth cX10_isMonth 1 (some .boolean) 1 22 0 0 [.int p0] f (some (.int r)) f := by
  unfold fnX10_isMonth at hf
  refine pz_enter (by decide +kernel) (Nat.le_of_ble_eq_true rfl) (fun C hl hC hK hnm => ?_)
  subst hl
  refine pz_sub (lv' := [(0, .int p0)]) [0] rfl ?_
  refine pz_iload_n hC dX10_isMonth_0 0 rfl ?_
  refine pz_iconst (v := (0 : Int32)) hC dX10_isMonth_1 (by decide) ?_
  refine pz_sipush (v := (1799 : Int32)) hC dX10_isMonth_2 (by decide) ?_
  refine pz_Si (As := [.int p0, .int (0 : Int32), .int (1799 : Int32)]) hC hK dX10_isMonth_5 py_X10_in ps_X10_in lk_X10_52 hf (fun _ h => mX10_in h) rfl rfl (Nat.le_of_ble_eq_true rfl) ⟨by decide, by decide⟩ ⟨by decide, by decide⟩ (fun x1 hf => ?_)
  exact pz_zret hC hK dX10_isMonth_8 hf
def fnX10_mostOf (p0 : Int32) : Option Int32 :=
  if p0 = (0 : Int32) then some ((400 : Int32)) else
  if p0 = (1 : Int32) then some ((1200 : Int32)) else
  if p0 = (2 : Int32) then some ((10 : Int32)) else
  if p0 = (3 : Int32) then some ((30 : Int32)) else
  some ((200 : Int32))
theorem mX10_mostOf {l : Launch} {G : pz_G} {f : pz_H} {p0 : Int32} {r : Int32} (hf : fnX10_mostOf p0 = some r) : pz_Met l G yX10_mostOf cX10_mostOf 1 (some .int) 0 0 0 0 [.int p0] f (some (.int r)) f := by
  unfold fnX10_mostOf at hf
  refine pz_enter (by decide +kernel) (Nat.le_of_ble_eq_true rfl) (fun C hl hC hK hnm => ?_)
  subst hl
  refine pz_sub (lv' := [(0, .int p0)]) [0] rfl ?_
  refine pz_iload_n hC dX10_mostOf_0 0 rfl ?_
  refine pz_case (x := p0) (v := (0 : Int32)) hf (fun c1_0 hf => ?_) (fun c1_0 hf => ?_)
  · refine pz_tabI (tgt := 32) hC dX10_mostOf_1 c1_0 (by decide) (by decide) rfl rfl ?_
    refine pz_sipush (v := (400 : Int32)) hC dX10_mostOf_32 (by decide) ?_
    exact pz_iret hC hK dX10_mostOf_35 hf
  refine pz_case (x := p0) (v := (1 : Int32)) hf (fun c1_1 hf => ?_) (fun c1_1 hf => ?_)
  · refine pz_tabI (tgt := 36) hC dX10_mostOf_1 c1_1 (by decide) (by decide) rfl rfl ?_
    refine pz_sipush (v := (1200 : Int32)) hC dX10_mostOf_36 (by decide) ?_
    exact pz_iret hC hK dX10_mostOf_39 hf
  refine pz_case (x := p0) (v := (2 : Int32)) hf (fun c1_2 hf => ?_) (fun c1_2 hf => ?_)
  · refine pz_tabI (tgt := 40) hC dX10_mostOf_1 c1_2 (by decide) (by decide) rfl rfl ?_
    refine pz_bipush (v := (10 : Int32)) hC dX10_mostOf_40 (by decide) ?_
    exact pz_iret hC hK dX10_mostOf_42 hf
  refine pz_case (x := p0) (v := (3 : Int32)) hf (fun c1_3 hf => ?_) (fun c1_3 hf => ?_)
  · refine pz_tabI (tgt := 43) hC dX10_mostOf_1 c1_3 (by decide) (by decide) rfl rfl ?_
    refine pz_bipush (v := (30 : Int32)) hC dX10_mostOf_43 (by decide) ?_
    exact pz_iret hC hK dX10_mostOf_45 hf
  have ec1_0 : ¬ p0.toInt = 0 := lv_neT c1_0 rfl
  have ec1_1 : ¬ p0.toInt = 1 := lv_neT c1_1 rfl
  have ec1_2 : ¬ p0.toInt = 2 := lv_neT c1_2 rfl
  have ec1_3 : ¬ p0.toInt = 3 := lv_neT c1_3 rfl
  refine pz_tabO (tgt := 46) hC dX10_mostOf_1 (by omega) rfl ?_
  refine pz_sipush (v := (200 : Int32)) hC dX10_mostOf_46 (by decide) ?_
  exact pz_iret hC hK dX10_mostOf_49 hf
def fnX10_isSpouse (f : pz_H) (a0 : Nat) (p1 : Int32) : Option Int32 :=
  (pz_is f a0 9).bind fun _ =>
  (pz_gR f a0 9 1).bind fun v1 =>
  (pz_aI f v1 0 ((4 : Int32))).bind fun v2 =>
  (fnX10_in p1 ((0 : Int32)) ((v2 - (1 : Int32)))).bind fun x3 =>
  pz_b x3
theorem mX10_isSpouse {l : Launch} {G : pz_G} {f : pz_H} {a0 : Nat} {p1 : Int32} {r : Int32} (hf : fnX10_isSpouse f a0 p1 = some r) : pz_Met l G yX10_isSpouse cX10_isSpouse 2 (some .boolean) 1 22 0 0 [.ref a0, .int p1] f (some (.int r)) f ∧ pz_is f a0 9 = some () := by
  unfold fnX10_isSpouse at hf
  obtain ⟨_, h0, hf⟩ := pz_bd hf
  refine ⟨pz_enter (by decide +kernel) (Nat.le_of_ble_eq_true rfl) (fun C hl hC hK hnm => ?_), h0⟩
  subst hl
  refine pz_sub (lv' := [(0, .ref a0), (1, .int p1)]) [0, 1] rfl ?_
  refine pz_iload_n hC dX10_isSpouse_0 1 rfl ?_
  refine pz_iconst (v := (0 : Int32)) hC dX10_isSpouse_1 (by decide) ?_
  refine pz_aload_n hC dX10_isSpouse_2 0 rfl ?_
  refine pz_getR hC dX10_isSpouse_3 fa_X10_7 hf (fun v1 hf => ?_)
  refine pz_iconst (v := (4 : Int32)) hC dX10_isSpouse_6 (by decide) ?_
  refine pz_iald hC dX10_isSpouse_7 hf (fun v2 hf => ?_)
  refine pz_iconst (v := (1 : Int32)) hC dX10_isSpouse_8 (by decide) ?_
  refine pz_isub hC dX10_isSpouse_9 ?_
  refine pz_Si (As := [.int p1, .int (0 : Int32), .int (v2 - (1 : Int32))]) hC hK dX10_isSpouse_10 py_X10_in ps_X10_in lk_X10_52 hf (fun _ h => mX10_in h) rfl rfl (Nat.le_of_ble_eq_true rfl) ⟨by decide, by decide⟩ ⟨by decide, by decide⟩ (fun x3 hf => ?_)
  exact pz_zret hC hK dX10_isSpouse_13 hf
def fnX10_its (f : pz_H) (a0 : Nat) (p1 : Int32) (p2 : Int32) : Option Int32 :=
  (pz_is f a0 9).bind fun _ =>
  (pz_gR f a0 9 1).bind fun v1 =>
  (pz_aI f v1 0 ((((35 : Int32) + ((8 : Int32) * p1)) + p2))).bind fun v2 =>
  some v2
theorem mX10_its {l : Launch} {G : pz_G} {f : pz_H} {a0 : Nat} {p1 : Int32} {p2 : Int32} {r : Int32} (hf : fnX10_its f a0 p1 p2 = some r) : pz_Met l G yX10_its cX10_its 3 (some .int) 0 0 0 0 [.ref a0, .int p1, .int p2] f (some (.int r)) f ∧ pz_is f a0 9 = some () := by
  unfold fnX10_its at hf
  obtain ⟨_, h0, hf⟩ := pz_bd hf
  refine ⟨pz_enter (by decide +kernel) (Nat.le_of_ble_eq_true rfl) (fun C hl hC hK hnm => ?_), h0⟩
  subst hl
  refine pz_sub (lv' := [(0, .ref a0), (1, .int p1), (2, .int p2)]) [0, 1, 2] rfl ?_
  refine pz_aload_n hC dX10_its_0 0 rfl ?_
  refine pz_getR hC dX10_its_1 fa_X10_7 hf (fun v1 hf => ?_)
  refine pz_bipush (v := (35 : Int32)) hC dX10_its_4 (by decide) ?_
  refine pz_bipush (v := (8 : Int32)) hC dX10_its_6 (by decide) ?_
  refine pz_iload_n hC dX10_its_8 1 rfl ?_
  refine pz_imul hC dX10_its_9 ?_
  refine pz_iadd hC dX10_its_10 ?_
  refine pz_iload_n hC dX10_its_11 2 rfl ?_
  refine pz_iadd hC dX10_its_12 ?_
  refine pz_iald hC dX10_its_13 hf (fun v2 hf => ?_)
  exact pz_iret hC hK dX10_its_14 hf
def fX10_isParted_15 (f : pz_H) (s0 : Int32) : Option Int32 :=
  pz_b s0
theorem tX10_isParted_15 {G : pz_G} {C : pz_C} {f : pz_H} {s0 : Int32} {r : Int32} (hC : pz_OK G C cX10_isParted 2 RX10) (hK : pz_K C (some .boolean) 1 22 0 0) (hf : fX10_isParted_15 f s0 = some r) : pz_W G C 2 15 [] [.int s0] f 0 0 (pz_Q G C (some (.int r)) f 0 0) := by
  unfold fX10_isParted_15 at hf
  exact pz_zret hC hK dX10_isParted_15 hf
def fnX10_isParted (f : pz_H) (a0 : Nat) (p1 : Int32) : Option Int32 :=
  (pz_is f a0 9).bind fun _ =>
  (fnX10_its f a0 p1 ((2 : Int32))).bind fun x1 =>
  if x1 = ((-1) : Int32) then fX10_isParted_15 f ((0 : Int32)) else
  fX10_isParted_15 f ((1 : Int32))
theorem mX10_isParted {l : Launch} {G : pz_G} {f : pz_H} {a0 : Nat} {p1 : Int32} {r : Int32} (hf : fnX10_isParted f a0 p1 = some r) : pz_Met l G yX10_isParted cX10_isParted 2 (some .boolean) 1 22 0 0 [.ref a0, .int p1] f (some (.int r)) f ∧ pz_is f a0 9 = some () := by
  unfold fnX10_isParted at hf
  obtain ⟨_, h0, hf⟩ := pz_bd hf
  refine ⟨pz_enter (by decide +kernel) (Nat.le_of_ble_eq_true rfl) (fun C hl hC hK hnm => ?_), h0⟩
  subst hl
  refine pz_sub (lv' := [(0, .ref a0), (1, .int p1)]) [0, 1] rfl ?_
  refine pz_aload_n hC dX10_isParted_0 0 rfl ?_
  refine pz_iload_n hC dX10_isParted_1 1 rfl ?_
  refine pz_iconst (v := (2 : Int32)) hC dX10_isParted_2 (by decide) ?_
  refine pz_Vi (As := [.int p1, .int (2 : Int32)]) hC hK dX10_isParted_3 py_X10_its pv_X10_its lk_X10_56 hf (fun _ h => mX10_its h) rfl rfl (Nat.le_of_ble_eq_true rfl) ⟨by decide, by decide⟩ ⟨Nat.le_of_ble_eq_true rfl, Nat.le_of_ble_eq_true rfl⟩ (fun x1 hf => ?_)
  refine pz_iconst (v := ((-1) : Int32)) hC dX10_isParted_6 (by decide) ?_
  refine pz_icmp_eq hC dX10_isParted_7 hf (fun _ hf => ?_) (fun _ hf => ?_)
  · refine pz_iconst (v := (0 : Int32)) hC dX10_isParted_14 (by decide) ?_
    refine pz_sub [] rfl ?_
    exact tX10_isParted_15 hC hK hf
  · refine pz_iconst (v := (1 : Int32)) hC dX10_isParted_10 (by decide) ?_
    refine pz_goto hC dX10_isParted_11 ?_
    refine pz_sub [] rfl ?_
    exact tX10_isParted_15 hC hK hf
def fnX10_spanOf (f : pz_H) (a0 : Nat) (p1 : Int32) (p2 : Int32) : Option Int32 :=
  (pz_is f a0 9).bind fun _ =>
  (pz_gR f a0 9 1).bind fun v1 =>
  (pz_aI f v1 0 ((((11 : Int32) + ((3 : Int32) * p1)) + p2))).bind fun v2 =>
  some v2
theorem mX10_spanOf {l : Launch} {G : pz_G} {f : pz_H} {a0 : Nat} {p1 : Int32} {p2 : Int32} {r : Int32} (hf : fnX10_spanOf f a0 p1 p2 = some r) : pz_Met l G yX10_spanOf cX10_spanOf 3 (some .int) 0 0 0 0 [.ref a0, .int p1, .int p2] f (some (.int r)) f ∧ pz_is f a0 9 = some () := by
  unfold fnX10_spanOf at hf
  obtain ⟨_, h0, hf⟩ := pz_bd hf
  refine ⟨pz_enter (by decide +kernel) (Nat.le_of_ble_eq_true rfl) (fun C hl hC hK hnm => ?_), h0⟩
  subst hl
  refine pz_sub (lv' := [(0, .ref a0), (1, .int p1), (2, .int p2)]) [0, 1, 2] rfl ?_
  refine pz_aload_n hC dX10_spanOf_0 0 rfl ?_
  refine pz_getR hC dX10_spanOf_1 fa_X10_7 hf (fun v1 hf => ?_)
  refine pz_bipush (v := (11 : Int32)) hC dX10_spanOf_4 (by decide) ?_
  refine pz_iconst (v := (3 : Int32)) hC dX10_spanOf_6 (by decide) ?_
  refine pz_iload_n hC dX10_spanOf_7 1 rfl ?_
  refine pz_imul hC dX10_spanOf_8 ?_
  refine pz_iadd hC dX10_spanOf_9 ?_
  refine pz_iload_n hC dX10_spanOf_10 2 rfl ?_
  refine pz_iadd hC dX10_spanOf_11 ?_
  refine pz_iald hC dX10_spanOf_12 hf (fun v2 hf => ?_)
  exact pz_iret hC hK dX10_spanOf_13 hf
def fX10_serviceIn_81 (k5 : Nat → Int32 → Int32 → Int32 → Int32 → Option Int32) (f : pz_H) (l0 : Nat) (l1 : Int32) (l2 : Int32) (l4 : Int32) (s0 : Int32) (s1 : Int32) : Option Int32 :=
  k5 l0 l1 l2 ((s1 + s0)) ((l4 + 1))
theorem tX10_serviceIn_81 {G : pz_G} {C : pz_C} {f : pz_H} {k5 : Nat → Int32 → Int32 → Int32 → Int32 → Option Int32} {l0 : Nat} {l1 : Int32} {l2 : Int32} {l4 : Int32} {s0 : Int32} {s1 : Int32} {r : Int32} (hC : pz_OK G C cX10_serviceIn 7 RX10) (hK : pz_K C (some .int) 1 22 0 0) (hk5 : ∀ (a0 : Nat) (a1 : Int32) (a2 : Int32) (a3 : Int32) (a4 : Int32), k5 a0 a1 a2 a3 a4 = some r → pz_W G C 7 5 [(0, .ref a0), (1, .int a1), (2, .int a2), (3, .int a3), (4, .int a4)] [] f 0 0 (pz_Q G C (some (.int r)) f 0 0)) (hf : fX10_serviceIn_81 k5 f l0 l1 l2 l4 s0 s1 = some r) : pz_W G C 7 81 [(0, .ref l0), (1, .int l1), (2, .int l2), (4, .int l4)] [.int s0, .int s1] f 0 0 (pz_Q G C (some (.int r)) f 0 0) := by
  unfold fX10_serviceIn_81 at hf
  refine pz_iadd hC dX10_serviceIn_81 ?_
  refine pz_istore_n hC dX10_serviceIn_82 (by decide) rfl ?_
  refine pz_iinc (v := (l4 + 1)) hC dX10_serviceIn_83 4 rfl rfl (by decide) rfl ?_
  refine pz_goto hC dX10_serviceIn_86 ?_
  refine pz_sub [2, 3, 4, 1, 0] rfl ?_
  exact hk5 _ _ _ _ _ hf
def fX10_serviceIn_62 (k5 : Nat → Int32 → Int32 → Int32 → Int32 → Option Int32) (f : pz_H) (l0 : Nat) (l1 : Int32) (l2 : Int32) (l3 : Int32) (l4 : Int32) (l5 : Int32) (s0 : Int32) : Option Int32 :=
  if s0 ≤ l5 then fX10_serviceIn_81 k5 f l0 l1 l2 l4 ((0 : Int32)) l3 else
  fX10_serviceIn_81 k5 f l0 l1 l2 l4 ((s0 - l5)) l3
theorem tX10_serviceIn_62 {G : pz_G} {C : pz_C} {f : pz_H} {k5 : Nat → Int32 → Int32 → Int32 → Int32 → Option Int32} {l0 : Nat} {l1 : Int32} {l2 : Int32} {l3 : Int32} {l4 : Int32} {l5 : Int32} {s0 : Int32} {r : Int32} (hC : pz_OK G C cX10_serviceIn 7 RX10) (hK : pz_K C (some .int) 1 22 0 0) (hk5 : ∀ (a0 : Nat) (a1 : Int32) (a2 : Int32) (a3 : Int32) (a4 : Int32), k5 a0 a1 a2 a3 a4 = some r → pz_W G C 7 5 [(0, .ref a0), (1, .int a1), (2, .int a2), (3, .int a3), (4, .int a4)] [] f 0 0 (pz_Q G C (some (.int r)) f 0 0)) (hf : fX10_serviceIn_62 k5 f l0 l1 l2 l3 l4 l5 s0 = some r) : pz_W G C 7 62 [(0, .ref l0), (1, .int l1), (2, .int l2), (3, .int l3), (4, .int l4), (5, .int l5)] [.int s0] f 0 0 (pz_Q G C (some (.int r)) f 0 0) := by
  unfold fX10_serviceIn_62 at hf
  refine pz_istore hC dX10_serviceIn_62 (by decide) rfl ?_
  refine pz_iload_n hC dX10_serviceIn_64 4 rfl ?_
  refine pz_iload hC dX10_serviceIn_65 0 rfl ?_
  refine pz_iload hC dX10_serviceIn_67 6 rfl ?_
  refine pz_icmp_le hC dX10_serviceIn_69 hf (fun _ hf => ?_) (fun _ hf => ?_)
  · refine pz_iconst (v := (0 : Int32)) hC dX10_serviceIn_80 (by decide) ?_
    refine pz_sub [1, 2, 3, 5] rfl ?_
    exact tX10_serviceIn_81 hC hK hk5 hf
  · refine pz_iload hC dX10_serviceIn_72 0 rfl ?_
    refine pz_iload hC dX10_serviceIn_74 6 rfl ?_
    refine pz_isub hC dX10_serviceIn_76 ?_
    refine pz_goto hC dX10_serviceIn_77 ?_
    refine pz_sub [1, 2, 3, 5] rfl ?_
    exact tX10_serviceIn_81 hC hK hk5 hf
def fX10_serviceIn_38 (k5 : Nat → Int32 → Int32 → Int32 → Int32 → Option Int32) (f : pz_H) (l0 : Nat) (l1 : Int32) (l2 : Int32) (l3 : Int32) (l4 : Int32) (s0 : Int32) : Option Int32 :=
  (fnX10_spanOf f l0 l4 ((1 : Int32))).bind fun x1 =>
  if l2 ≤ x1 then fX10_serviceIn_62 k5 f l0 l1 l2 l3 l4 s0 l2 else
  (fnX10_spanOf f l0 l4 ((1 : Int32))).bind fun x2 =>
  fX10_serviceIn_62 k5 f l0 l1 l2 l3 l4 s0 x2
theorem tX10_serviceIn_38 {G : pz_G} {C : pz_C} {f : pz_H} {k5 : Nat → Int32 → Int32 → Int32 → Int32 → Option Int32} {l0 : Nat} {l1 : Int32} {l2 : Int32} {l3 : Int32} {l4 : Int32} {s0 : Int32} {r : Int32} (hC : pz_OK G C cX10_serviceIn 7 RX10) (hK : pz_K C (some .int) 1 22 0 0) (hk5 : ∀ (a0 : Nat) (a1 : Int32) (a2 : Int32) (a3 : Int32) (a4 : Int32), k5 a0 a1 a2 a3 a4 = some r → pz_W G C 7 5 [(0, .ref a0), (1, .int a1), (2, .int a2), (3, .int a3), (4, .int a4)] [] f 0 0 (pz_Q G C (some (.int r)) f 0 0)) (hf : fX10_serviceIn_38 k5 f l0 l1 l2 l3 l4 s0 = some r) : pz_W G C 7 38 [(0, .ref l0), (1, .int l1), (2, .int l2), (3, .int l3), (4, .int l4)] [.int s0] f 0 0 (pz_Q G C (some (.int r)) f 0 0) := by
  unfold fX10_serviceIn_38 at hf
  refine pz_istore hC dX10_serviceIn_38 (by decide) rfl ?_
  refine pz_aload_n hC dX10_serviceIn_40 1 rfl ?_
  refine pz_iload hC dX10_serviceIn_41 5 rfl ?_
  refine pz_iconst (v := (1 : Int32)) hC dX10_serviceIn_43 (by decide) ?_
  refine pz_Vi (As := [.int l4, .int (1 : Int32)]) hC hK dX10_serviceIn_44 py_X10_spanOf pv_X10_spanOf lk_X10_60 hf (fun _ h => mX10_spanOf h) rfl rfl (Nat.le_of_ble_eq_true rfl) ⟨by decide, by decide⟩ ⟨Nat.le_of_ble_eq_true rfl, Nat.le_of_ble_eq_true rfl⟩ (fun x1 hf => ?_)
  refine pz_iload_n hC dX10_serviceIn_47 3 rfl ?_
  refine pz_icmp_ge hC dX10_serviceIn_48 hf (fun _ hf => ?_) (fun _ hf => ?_)
  · refine pz_iload_n hC dX10_serviceIn_61 3 rfl ?_
    refine pz_sub [1, 2, 3, 4, 5, 0] rfl ?_
    exact tX10_serviceIn_62 hC hK hk5 hf
  · refine pz_aload_n hC dX10_serviceIn_51 1 rfl ?_
    refine pz_iload hC dX10_serviceIn_52 5 rfl ?_
    refine pz_iconst (v := (1 : Int32)) hC dX10_serviceIn_54 (by decide) ?_
    refine pz_Vi (As := [.int l4, .int (1 : Int32)]) hC hK dX10_serviceIn_55 py_X10_spanOf pv_X10_spanOf lk_X10_60 hf (fun _ h => mX10_spanOf h) rfl rfl (Nat.le_of_ble_eq_true rfl) ⟨by decide, by decide⟩ ⟨Nat.le_of_ble_eq_true rfl, Nat.le_of_ble_eq_true rfl⟩ (fun x2 hf => ?_)
    refine pz_goto hC dX10_serviceIn_58 ?_
    refine pz_sub [1, 2, 3, 4, 5, 0] rfl ?_
    exact tX10_serviceIn_62 hC hK hk5 hf
def fX10_serviceIn_5b (k5 : Nat → Int32 → Int32 → Int32 → Int32 → Option Int32) (f : pz_H) (l0 : Nat) (l1 : Int32) (l2 : Int32) (l3 : Int32) (l4 : Int32) : Option Int32 :=
  (pz_gR f l0 9 1).bind fun v1 =>
  (pz_aI f v1 0 ((3 : Int32))).bind fun v2 =>
  if v2 ≤ l4 then some l3 else
  (fnX10_spanOf f l0 l4 ((0 : Int32))).bind fun x3 =>
  if x3 ≤ l1 then fX10_serviceIn_38 k5 f l0 l1 l2 l3 l4 l1 else
  (fnX10_spanOf f l0 l4 ((0 : Int32))).bind fun x4 =>
  fX10_serviceIn_38 k5 f l0 l1 l2 l3 l4 x4
theorem tX10_serviceIn_5b {G : pz_G} {C : pz_C} {f : pz_H} {k5 : Nat → Int32 → Int32 → Int32 → Int32 → Option Int32} {l0 : Nat} {l1 : Int32} {l2 : Int32} {l3 : Int32} {l4 : Int32} {r : Int32} (hC : pz_OK G C cX10_serviceIn 7 RX10) (hK : pz_K C (some .int) 1 22 0 0) (hk5 : ∀ (a0 : Nat) (a1 : Int32) (a2 : Int32) (a3 : Int32) (a4 : Int32), k5 a0 a1 a2 a3 a4 = some r → pz_W G C 7 5 [(0, .ref a0), (1, .int a1), (2, .int a2), (3, .int a3), (4, .int a4)] [] f 0 0 (pz_Q G C (some (.int r)) f 0 0)) (hf : fX10_serviceIn_5b k5 f l0 l1 l2 l3 l4 = some r) : pz_W G C 7 5 [(0, .ref l0), (1, .int l1), (2, .int l2), (3, .int l3), (4, .int l4)] [] f 0 0 (pz_Q G C (some (.int r)) f 0 0) := by
  unfold fX10_serviceIn_5b at hf
  refine pz_iload hC dX10_serviceIn_5 4 rfl ?_
  refine pz_aload_n hC dX10_serviceIn_7 0 rfl ?_
  refine pz_getR hC dX10_serviceIn_8 fa_X10_7 hf (fun v1 hf => ?_)
  refine pz_iconst (v := (3 : Int32)) hC dX10_serviceIn_11 (by decide) ?_
  refine pz_iald hC dX10_serviceIn_12 hf (fun v2 hf => ?_)
  refine pz_icmp_ge hC dX10_serviceIn_13 hf (fun _ hf => ?_) (fun _ hf => ?_)
  · refine pz_iload_n hC dX10_serviceIn_89 3 rfl ?_
    exact pz_iret hC hK dX10_serviceIn_90 hf
  · refine pz_aload_n hC dX10_serviceIn_16 0 rfl ?_
    refine pz_iload hC dX10_serviceIn_17 4 rfl ?_
    refine pz_iconst (v := (0 : Int32)) hC dX10_serviceIn_19 (by decide) ?_
    refine pz_Vi (As := [.int l4, .int (0 : Int32)]) hC hK dX10_serviceIn_20 py_X10_spanOf pv_X10_spanOf lk_X10_60 hf (fun _ h => mX10_spanOf h) rfl rfl (Nat.le_of_ble_eq_true rfl) ⟨by decide, by decide⟩ ⟨Nat.le_of_ble_eq_true rfl, Nat.le_of_ble_eq_true rfl⟩ (fun x3 hf => ?_)
    refine pz_iload_n hC dX10_serviceIn_23 1 rfl ?_
    refine pz_icmp_le hC dX10_serviceIn_24 hf (fun _ hf => ?_) (fun _ hf => ?_)
    · refine pz_iload_n hC dX10_serviceIn_37 1 rfl ?_
      exact tX10_serviceIn_38 hC hK hk5 hf
    · refine pz_aload_n hC dX10_serviceIn_27 0 rfl ?_
      refine pz_iload hC dX10_serviceIn_28 4 rfl ?_
      refine pz_iconst (v := (0 : Int32)) hC dX10_serviceIn_30 (by decide) ?_
      refine pz_Vi (As := [.int l4, .int (0 : Int32)]) hC hK dX10_serviceIn_31 py_X10_spanOf pv_X10_spanOf lk_X10_60 hf (fun _ h => mX10_spanOf h) rfl rfl (Nat.le_of_ble_eq_true rfl) ⟨by decide, by decide⟩ ⟨Nat.le_of_ble_eq_true rfl, Nat.le_of_ble_eq_true rfl⟩ (fun x4 hf => ?_)
      refine pz_goto hC dX10_serviceIn_34 ?_
      exact tX10_serviceIn_38 hC hK hk5 hf
def fX10_serviceIn_5 (f : pz_H) : Nat → Nat → Int32 → Int32 → Int32 → Int32 → Option Int32
  | 0, _, _, _, _, _ => none
  | n + 1, l0, l1, l2, l3, l4 => fX10_serviceIn_5b (fX10_serviceIn_5 f n) f l0 l1 l2 l3 l4
theorem tX10_serviceIn_5 {G : pz_G} {C : pz_C} {f : pz_H} {r : Int32} (hC : pz_OK G C cX10_serviceIn 7 RX10) (hK : pz_K C (some .int) 1 22 0 0) : ∀ (N : Nat) (l0 : Nat) (l1 : Int32) (l2 : Int32) (l3 : Int32) (l4 : Int32), fX10_serviceIn_5 f N l0 l1 l2 l3 l4 = some r → pz_W G C 7 5 [(0, .ref l0), (1, .int l1), (2, .int l2), (3, .int l3), (4, .int l4)] [] f 0 0 (pz_Q G C (some (.int r)) f 0 0) := by
  intro N
  induction N with
  | zero => intro l0 l1 l2 l3 l4 hf; cases hf
  | succ N ih => intro l0 l1 l2 l3 l4 hf; exact tX10_serviceIn_5b hC hK (fun l0 l1 l2 l3 l4 hf => ih l0 l1 l2 l3 l4 hf) hf
def fnX10_serviceIn (f : pz_H) (a0 : Nat) (p1 : Int32) (p2 : Int32) : Option Int32 :=
  (pz_is f a0 9).bind fun _ =>
  fX10_serviceIn_5 f pz_F a0 p1 p2 ((0 : Int32)) ((0 : Int32))
theorem mX10_serviceIn {l : Launch} {G : pz_G} {f : pz_H} {a0 : Nat} {p1 : Int32} {p2 : Int32} {r : Int32} (hf : fnX10_serviceIn f a0 p1 p2 = some r) : pz_Met l G yX10_serviceIn cX10_serviceIn 7 (some .int) 1 22 0 0 [.ref a0, .int p1, .int p2] f (some (.int r)) f ∧ pz_is f a0 9 = some () := by
  unfold fnX10_serviceIn at hf
  obtain ⟨_, h0, hf⟩ := pz_bd hf
  refine ⟨pz_enter (by decide +kernel) (Nat.le_of_ble_eq_true rfl) (fun C hl hC hK hnm => ?_), h0⟩
  subst hl
  refine pz_sub (lv' := [(0, .ref a0), (1, .int p1), (2, .int p2)]) [0, 1, 2] rfl ?_
  refine pz_iconst (v := (0 : Int32)) hC dX10_serviceIn_0 (by decide) ?_
  refine pz_istore_n hC dX10_serviceIn_1 (by decide) rfl ?_
  refine pz_iconst (v := (0 : Int32)) hC dX10_serviceIn_2 (by decide) ?_
  refine pz_istore hC dX10_serviceIn_3 (by decide) rfl ?_
  refine pz_sub [2, 3, 4, 1, 0] rfl ?_
  exact tX10_serviceIn_5 hC hK _ _ _ _ _ _ hf
def fnX10_served (f : pz_H) (a0 : Nat) : Option Int32 :=
  (pz_is f a0 9).bind fun _ =>
  (fnX10_serviceIn f a0 ((0 : Int32)) ((1800 : Int32))).bind fun x1 =>
  some x1
theorem mX10_served {l : Launch} {G : pz_G} {f : pz_H} {a0 : Nat} {r : Int32} (hf : fnX10_served f a0 = some r) : pz_Met l G yX10_served cX10_served 1 (some .int) 2 48 0 0 [.ref a0] f (some (.int r)) f ∧ pz_is f a0 9 = some () := by
  unfold fnX10_served at hf
  obtain ⟨_, h0, hf⟩ := pz_bd hf
  refine ⟨pz_enter (by decide +kernel) (Nat.le_of_ble_eq_true rfl) (fun C hl hC hK hnm => ?_), h0⟩
  subst hl
  refine pz_sub (lv' := [(0, .ref a0)]) [0] rfl ?_
  refine pz_aload_n hC dX10_served_0 0 rfl ?_
  refine pz_iconst (v := (0 : Int32)) hC dX10_served_1 (by decide) ?_
  refine pz_sipush (v := (1800 : Int32)) hC dX10_served_2 (by decide) ?_
  refine pz_Vi (As := [.int (0 : Int32), .int (1800 : Int32)]) hC hK dX10_served_5 py_X10_serviceIn pv_X10_serviceIn lk_X10_63 hf (fun _ h => mX10_serviceIn h) rfl rfl (Nat.le_of_ble_eq_true rfl) ⟨by decide, by decide⟩ ⟨Nat.le_of_ble_eq_true rfl, Nat.le_of_ble_eq_true rfl⟩ (fun x1 hf => ?_)
  exact pz_iret hC hK dX10_served_8 hf
def fX10_finalPay_54 (k14 : Nat → Int64 → Int32 → Int32 → Option Int32) (f : pz_H) (l0 : Nat) (l1 : Int64) (l3 : Int32) (l4 : Int32) (s0 : Int32) : Option Int32 :=
  (fnX10_spanOf f l0 l4 ((2 : Int32))).bind fun x1 =>
  k14 l0 ((l1 + (s0.toInt64 * x1.toInt64))) ((l3 + s0)) ((l4 + (-1)))
theorem tX10_finalPay_54 {G : pz_G} {C : pz_C} {f : pz_H} {k14 : Nat → Int64 → Int32 → Int32 → Option Int32} {l0 : Nat} {l1 : Int64} {l3 : Int32} {l4 : Int32} {s0 : Int32} {r : Int32} (hC : pz_OK G C cX10_finalPay 6 RX10) (hK : pz_K C (some .int) 1 22 0 0) (hk14 : ∀ (a0 : Nat) (a1 : Int64) (a3 : Int32) (a4 : Int32), k14 a0 a1 a3 a4 = some r → pz_W G C 6 14 [(0, .ref a0), (1, .long a1), (3, .int a3), (4, .int a4)] [] f 0 0 (pz_Q G C (some (.int r)) f 0 0)) (hf : fX10_finalPay_54 k14 f l0 l1 l3 l4 s0 = some r) : pz_W G C 6 54 [(0, .ref l0), (1, .long l1), (3, .int l3), (4, .int l4)] [.int s0] f 0 0 (pz_Q G C (some (.int r)) f 0 0) := by
  unfold fX10_finalPay_54 at hf
  refine pz_istore hC dX10_finalPay_54 (by decide) rfl ?_
  refine pz_lload_n hC dX10_finalPay_56 2 rfl ?_
  refine pz_iload hC dX10_finalPay_57 0 rfl ?_
  refine pz_i2l hC dX10_finalPay_59 ?_
  refine pz_aload_n hC dX10_finalPay_60 1 rfl ?_
  refine pz_iload hC dX10_finalPay_61 4 rfl ?_
  refine pz_iconst (v := (2 : Int32)) hC dX10_finalPay_63 (by decide) ?_
  refine pz_Vi (As := [.int l4, .int (2 : Int32)]) hC hK dX10_finalPay_64 py_X10_spanOf pv_X10_spanOf lk_X10_60 hf (fun _ h => mX10_spanOf h) rfl rfl (Nat.le_of_ble_eq_true rfl) ⟨by decide, by decide⟩ ⟨Nat.le_of_ble_eq_true rfl, Nat.le_of_ble_eq_true rfl⟩ (fun x1 hf => ?_)
  refine pz_i2l hC dX10_finalPay_67 ?_
  refine pz_lmul hC dX10_finalPay_68 ?_
  refine pz_ladd hC dX10_finalPay_69 ?_
  refine pz_lstore_n hC dX10_finalPay_70 (by decide) rfl ?_
  refine pz_iload_n hC dX10_finalPay_71 3 rfl ?_
  refine pz_iload hC dX10_finalPay_72 1 rfl ?_
  refine pz_iadd hC dX10_finalPay_74 ?_
  refine pz_istore_n hC dX10_finalPay_75 (by decide) rfl ?_
  refine pz_iinc (v := (l4 + (-1))) hC dX10_finalPay_76 4 rfl rfl (by decide) rfl ?_
  refine pz_goto hC dX10_finalPay_79 ?_
  refine pz_sub [4, 2, 1, 0] rfl ?_
  exact hk14 _ _ _ _ hf
def fX10_finalPay_95 (f : pz_H) (s0 : Int32) : Option Int32 :=
  some s0
theorem tX10_finalPay_95 {G : pz_G} {C : pz_C} {f : pz_H} {s0 : Int32} {r : Int32} (hC : pz_OK G C cX10_finalPay 6 RX10) (hK : pz_K C (some .int) 1 22 0 0) (hf : fX10_finalPay_95 f s0 = some r) : pz_W G C 6 95 [] [.int s0] f 0 0 (pz_Q G C (some (.int r)) f 0 0) := by
  unfold fX10_finalPay_95 at hf
  exact pz_iret hC hK dX10_finalPay_95 hf
def fX10_finalPay_14b (k14 : Nat → Int64 → Int32 → Int32 → Option Int32) (f : pz_H) (l0 : Nat) (l1 : Int64) (l3 : Int32) (l4 : Int32) : Option Int32 :=
  if l4 < 0 then if l3 = 0 then fX10_finalPay_95 f ((0 : Int32)) else
  if l3.toInt64 = 0 then none else
  fX10_finalPay_95 f (((l1 / l3.toInt64)).toInt32) else
  (fnX10_spanOf f l0 l4 ((1 : Int32))).bind fun x1 =>
  (fnX10_spanOf f l0 l4 ((0 : Int32))).bind fun x2 =>
  if (x1 - x2) ≤ ((36 : Int32) - l3) then fX10_finalPay_54 k14 f l0 l1 l3 l4 ((x1 - x2)) else
  fX10_finalPay_54 k14 f l0 l1 l3 l4 (((36 : Int32) - l3))
theorem tX10_finalPay_14b {G : pz_G} {C : pz_C} {f : pz_H} {k14 : Nat → Int64 → Int32 → Int32 → Option Int32} {l0 : Nat} {l1 : Int64} {l3 : Int32} {l4 : Int32} {r : Int32} (hC : pz_OK G C cX10_finalPay 6 RX10) (hK : pz_K C (some .int) 1 22 0 0) (hk14 : ∀ (a0 : Nat) (a1 : Int64) (a3 : Int32) (a4 : Int32), k14 a0 a1 a3 a4 = some r → pz_W G C 6 14 [(0, .ref a0), (1, .long a1), (3, .int a3), (4, .int a4)] [] f 0 0 (pz_Q G C (some (.int r)) f 0 0)) (hf : fX10_finalPay_14b k14 f l0 l1 l3 l4 = some r) : pz_W G C 6 14 [(0, .ref l0), (1, .long l1), (3, .int l3), (4, .int l4)] [] f 0 0 (pz_Q G C (some (.int r)) f 0 0) := by
  unfold fX10_finalPay_14b at hf
  refine pz_iload hC dX10_finalPay_14 3 rfl ?_
  refine pz_if_lt hC dX10_finalPay_16 hf (fun _ hf => ?_) (fun _ hf => ?_)
  · refine pz_iload_n hC dX10_finalPay_82 2 rfl ?_
    refine pz_if_ne hC dX10_finalPay_83 hf (fun _ hf => ?_) (fun _ hf => ?_)
    · refine pz_lload_n hC dX10_finalPay_90 1 rfl ?_
      refine pz_iload_n hC dX10_finalPay_91 2 rfl ?_
      refine pz_i2l hC dX10_finalPay_92 ?_
      refine pz_ldiv hC dX10_finalPay_93 hf (fun hf => ?_)
      refine pz_l2i hC dX10_finalPay_94 ?_
      refine pz_sub [] rfl ?_
      exact tX10_finalPay_95 hC hK hf
    · refine pz_iconst (v := (0 : Int32)) hC dX10_finalPay_86 (by decide) ?_
      refine pz_goto hC dX10_finalPay_87 ?_
      refine pz_sub [] rfl ?_
      exact tX10_finalPay_95 hC hK hf
  · refine pz_aload_n hC dX10_finalPay_19 0 rfl ?_
    refine pz_iload hC dX10_finalPay_20 3 rfl ?_
    refine pz_iconst (v := (1 : Int32)) hC dX10_finalPay_22 (by decide) ?_
    refine pz_Vi (As := [.int l4, .int (1 : Int32)]) hC hK dX10_finalPay_23 py_X10_spanOf pv_X10_spanOf lk_X10_60 hf (fun _ h => mX10_spanOf h) rfl rfl (Nat.le_of_ble_eq_true rfl) ⟨by decide, by decide⟩ ⟨Nat.le_of_ble_eq_true rfl, Nat.le_of_ble_eq_true rfl⟩ (fun x1 hf => ?_)
    refine pz_aload_n hC dX10_finalPay_26 0 rfl ?_
    refine pz_iload hC dX10_finalPay_27 3 rfl ?_
    refine pz_iconst (v := (0 : Int32)) hC dX10_finalPay_29 (by decide) ?_
    refine pz_Vi (As := [.int l4, .int (0 : Int32)]) hC hK dX10_finalPay_30 py_X10_spanOf pv_X10_spanOf lk_X10_60 hf (fun _ h => mX10_spanOf h) rfl rfl (Nat.le_of_ble_eq_true rfl) ⟨by decide, by decide⟩ ⟨Nat.le_of_ble_eq_true rfl, Nat.le_of_ble_eq_true rfl⟩ (fun x2 hf => ?_)
    refine pz_isub hC dX10_finalPay_33 ?_
    refine pz_istore hC dX10_finalPay_34 (by decide) rfl ?_
    refine pz_iload hC dX10_finalPay_36 0 rfl ?_
    refine pz_bipush (v := (36 : Int32)) hC dX10_finalPay_38 (by decide) ?_
    refine pz_iload_n hC dX10_finalPay_40 3 rfl ?_
    refine pz_isub hC dX10_finalPay_41 ?_
    refine pz_icmp_le hC dX10_finalPay_42 hf (fun _ hf => ?_) (fun _ hf => ?_)
    · refine pz_iload hC dX10_finalPay_52 0 rfl ?_
      refine pz_sub [1, 2, 3, 4] rfl ?_
      exact tX10_finalPay_54 hC hK hk14 hf
    · refine pz_bipush (v := (36 : Int32)) hC dX10_finalPay_45 (by decide) ?_
      refine pz_iload_n hC dX10_finalPay_47 3 rfl ?_
      refine pz_isub hC dX10_finalPay_48 ?_
      refine pz_goto hC dX10_finalPay_49 ?_
      refine pz_sub [1, 2, 3, 4] rfl ?_
      exact tX10_finalPay_54 hC hK hk14 hf
def fX10_finalPay_14 (f : pz_H) : Nat → Nat → Int64 → Int32 → Int32 → Option Int32
  | 0, _, _, _, _ => none
  | n + 1, l0, l1, l3, l4 => fX10_finalPay_14b (fX10_finalPay_14 f n) f l0 l1 l3 l4
theorem tX10_finalPay_14 {G : pz_G} {C : pz_C} {f : pz_H} {r : Int32} (hC : pz_OK G C cX10_finalPay 6 RX10) (hK : pz_K C (some .int) 1 22 0 0) : ∀ (N : Nat) (l0 : Nat) (l1 : Int64) (l3 : Int32) (l4 : Int32), fX10_finalPay_14 f N l0 l1 l3 l4 = some r → pz_W G C 6 14 [(0, .ref l0), (1, .long l1), (3, .int l3), (4, .int l4)] [] f 0 0 (pz_Q G C (some (.int r)) f 0 0) := by
  intro N
  induction N with
  | zero => intro l0 l1 l3 l4 hf; cases hf
  | succ N ih => intro l0 l1 l3 l4 hf; exact tX10_finalPay_14b hC hK (fun l0 l1 l3 l4 hf => ih l0 l1 l3 l4 hf) hf
def fnX10_finalPay (f : pz_H) (a0 : Nat) : Option Int32 :=
  (pz_is f a0 9).bind fun _ =>
  (pz_gR f a0 9 1).bind fun v1 =>
  (pz_aI f v1 0 ((3 : Int32))).bind fun v2 =>
  fX10_finalPay_14 f pz_F a0 ((0 : Int64)) ((0 : Int32)) ((v2 - (1 : Int32)))
theorem mX10_finalPay {l : Launch} {G : pz_G} {f : pz_H} {a0 : Nat} {r : Int32} (hf : fnX10_finalPay f a0 = some r) : pz_Met l G yX10_finalPay cX10_finalPay 6 (some .int) 1 22 0 0 [.ref a0] f (some (.int r)) f ∧ pz_is f a0 9 = some () := by
  unfold fnX10_finalPay at hf
  obtain ⟨_, h0, hf⟩ := pz_bd hf
  refine ⟨pz_enter (by decide +kernel) (Nat.le_of_ble_eq_true rfl) (fun C hl hC hK hnm => ?_), h0⟩
  subst hl
  refine pz_sub (lv' := [(0, .ref a0)]) [0] rfl ?_
  refine pz_lconst (v := 0) hC dX10_finalPay_0 (by decide) ?_
  refine pz_lstore_n hC dX10_finalPay_1 (by decide) rfl ?_
  refine pz_iconst (v := (0 : Int32)) hC dX10_finalPay_2 (by decide) ?_
  refine pz_istore_n hC dX10_finalPay_3 (by decide) rfl ?_
  refine pz_aload_n hC dX10_finalPay_4 2 rfl ?_
  refine pz_getR hC dX10_finalPay_5 fa_X10_7 hf (fun v1 hf => ?_)
  refine pz_iconst (v := (3 : Int32)) hC dX10_finalPay_8 (by decide) ?_
  refine pz_iald hC dX10_finalPay_9 hf (fun v2 hf => ?_)
  refine pz_iconst (v := (1 : Int32)) hC dX10_finalPay_10 (by decide) ?_
  refine pz_isub hC dX10_finalPay_11 ?_
  refine pz_istore hC dX10_finalPay_12 (by decide) rfl ?_
  refine pz_sub [3, 2, 1, 0] rfl ?_
  exact tX10_finalPay_14 hC hK _ _ _ _ _ hf
def fnX10_base (f : pz_H) (a0 : Nat) : Option Int32 :=
  (pz_is f a0 9).bind fun _ =>
  (fnX10_finalPay f a0).bind fun x1 =>
  (pz_gR f a0 9 1).bind fun v2 =>
  (pz_aI f v2 0 ((6 : Int32))).bind fun v3 =>
  (fnX10_served f a0).bind fun x4 =>
  some (((((x1.toInt64 * v3.toInt64) * x4.toInt64) / (120000 : Int64))).toInt32)
theorem mX10_base {l : Launch} {G : pz_G} {f : pz_H} {a0 : Nat} {r : Int32} (hf : fnX10_base f a0 = some r) : pz_Met l G yX10_base cX10_base 1 (some .int) 3 68 0 0 [.ref a0] f (some (.int r)) f ∧ pz_is f a0 9 = some () := by
  unfold fnX10_base at hf
  obtain ⟨_, h0, hf⟩ := pz_bd hf
  refine ⟨pz_enter (by decide +kernel) (Nat.le_of_ble_eq_true rfl) (fun C hl hC hK hnm => ?_), h0⟩
  subst hl
  refine pz_sub (lv' := [(0, .ref a0)]) [0] rfl ?_
  refine pz_aload_n hC dX10_base_0 0 rfl ?_
  refine pz_Vi (As := []) hC hK dX10_base_1 py_X10_finalPay pv_X10_finalPay lk_X10_66 hf (fun _ h => mX10_finalPay h) rfl rfl (Nat.le_of_ble_eq_true rfl) ⟨by decide, by decide⟩ ⟨Nat.le_of_ble_eq_true rfl, Nat.le_of_ble_eq_true rfl⟩ (fun x1 hf => ?_)
  refine pz_i2l hC dX10_base_4 ?_
  refine pz_aload_n hC dX10_base_5 0 rfl ?_
  refine pz_getR hC dX10_base_6 fa_X10_7 hf (fun v2 hf => ?_)
  refine pz_bipush (v := (6 : Int32)) hC dX10_base_9 (by decide) ?_
  refine pz_iald hC dX10_base_11 hf (fun v3 hf => ?_)
  refine pz_i2l hC dX10_base_12 ?_
  refine pz_lmul hC dX10_base_13 ?_
  refine pz_aload_n hC dX10_base_14 0 rfl ?_
  refine pz_Vi (As := []) hC hK dX10_base_15 py_X10_served pv_X10_served lk_X10_70 hf (fun _ h => mX10_served h) rfl rfl (Nat.le_of_ble_eq_true rfl) ⟨by decide, by decide⟩ ⟨Nat.le_of_ble_eq_true rfl, Nat.le_of_ble_eq_true rfl⟩ (fun x4 hf => ?_)
  refine pz_i2l hC dX10_base_18 ?_
  refine pz_lmul hC dX10_base_19 ?_
  refine pz_ldc2 hC dX10_base_20 ck_X10_73 ?_
  refine pz_ldivc hC dX10_base_23 (by decide) ?_
  refine pz_l2i hC dX10_base_24 ?_
  exact pz_iret hC hK dX10_base_25 hf
def fX10_firstPaid_79 (f : pz_H) (s0 : Int32) : Option Int32 :=
  some s0
theorem tX10_firstPaid_79 {G : pz_G} {C : pz_C} {f : pz_H} {s0 : Int32} {r : Int32} (hC : pz_OK G C cX10_firstPaid 3 RX10) (hK : pz_K C (some .int) 4 88 0 0) (hf : fX10_firstPaid_79 f s0 = some r) : pz_W G C 3 79 [] [.int s0] f 0 0 (pz_Q G C (some (.int r)) f 0 0) := by
  unfold fX10_firstPaid_79 at hf
  exact pz_iret hC hK dX10_firstPaid_79 hf
def fX10_firstPaid_57 (f : pz_H) (l0 : Nat) (s0 : Int32) : Option Int32 :=
  if s0 ≤ 0 then fX10_firstPaid_79 f ((0 : Int32)) else
  (fnX10_base f l0).bind fun x1 =>
  fX10_firstPaid_79 f ((((x1.toInt64 * s0.toInt64) / (1000 : Int64))).toInt32)
theorem tX10_firstPaid_57 {G : pz_G} {C : pz_C} {f : pz_H} {l0 : Nat} {s0 : Int32} {r : Int32} (hC : pz_OK G C cX10_firstPaid 3 RX10) (hK : pz_K C (some .int) 4 88 0 0) (hf : fX10_firstPaid_57 f l0 s0 = some r) : pz_W G C 3 57 [(0, .ref l0)] [.int s0] f 0 0 (pz_Q G C (some (.int r)) f 0 0) := by
  unfold fX10_firstPaid_57 at hf
  refine pz_istore_n hC dX10_firstPaid_57 (by decide) rfl ?_
  refine pz_iload_n hC dX10_firstPaid_58 0 rfl ?_
  refine pz_if_le hC dX10_firstPaid_59 hf (fun _ hf => ?_) (fun _ hf => ?_)
  · refine pz_iconst (v := (0 : Int32)) hC dX10_firstPaid_78 (by decide) ?_
    refine pz_sub [] rfl ?_
    exact tX10_firstPaid_79 hC hK hf
  · refine pz_aload_n hC dX10_firstPaid_62 1 rfl ?_
    refine pz_Vi (As := []) hC hK dX10_firstPaid_63 py_X10_base pv_X10_base lk_X10_75 hf (fun _ h => mX10_base h) rfl rfl (Nat.le_of_ble_eq_true rfl) ⟨by decide, by decide⟩ ⟨Nat.le_of_ble_eq_true rfl, Nat.le_of_ble_eq_true rfl⟩ (fun x1 hf => ?_)
    refine pz_i2l hC dX10_firstPaid_66 ?_
    refine pz_iload_n hC dX10_firstPaid_67 0 rfl ?_
    refine pz_i2l hC dX10_firstPaid_68 ?_
    refine pz_lmul hC dX10_firstPaid_69 ?_
    refine pz_ldc2 hC dX10_firstPaid_70 ck_X10_78 ?_
    refine pz_ldivc hC dX10_firstPaid_73 (by decide) ?_
    refine pz_l2i hC dX10_firstPaid_74 ?_
    refine pz_goto hC dX10_firstPaid_75 ?_
    refine pz_sub [] rfl ?_
    exact tX10_firstPaid_79 hC hK hf
def fnX10_firstPaid (f : pz_H) (a0 : Nat) : Option Int32 :=
  (pz_is f a0 9).bind fun _ =>
  (pz_gR f a0 9 1).bind fun v1 =>
  (pz_aI f v1 0 ((1 : Int32))).bind fun v2 =>
  if v2 = ((-1) : Int32) then some ((0 : Int32)) else
  (pz_gR f a0 9 1).bind fun v3 =>
  (pz_aI f v3 0 ((7 : Int32))).bind fun v4 =>
  (pz_gR f a0 9 1).bind fun v5 =>
  (pz_aI f v5 0 ((1 : Int32))).bind fun v6 =>
  (pz_gR f a0 9 1).bind fun v7 =>
  (pz_aI f v7 0 ((0 : Int32))).bind fun v8 =>
  if (v4 - (v6 - v8)) ≤ 0 then fX10_firstPaid_57 f a0 ((1000 : Int32)) else
  (pz_gR f a0 9 1).bind fun v9 =>
  (pz_aI f v9 0 ((8 : Int32))).bind fun v10 =>
  fX10_firstPaid_57 f a0 (((1000 : Int32) - (v10 * (v4 - (v6 - v8)))))
theorem mX10_firstPaid {l : Launch} {G : pz_G} {f : pz_H} {a0 : Nat} {r : Int32} (hf : fnX10_firstPaid f a0 = some r) : pz_Met l G yX10_firstPaid cX10_firstPaid 3 (some .int) 4 88 0 0 [.ref a0] f (some (.int r)) f ∧ pz_is f a0 9 = some () := by
  unfold fnX10_firstPaid at hf
  obtain ⟨_, h0, hf⟩ := pz_bd hf
  refine ⟨pz_enter (by decide +kernel) (Nat.le_of_ble_eq_true rfl) (fun C hl hC hK hnm => ?_), h0⟩
  subst hl
  refine pz_sub (lv' := [(0, .ref a0)]) [0] rfl ?_
  refine pz_aload_n hC dX10_firstPaid_0 0 rfl ?_
  refine pz_getR hC dX10_firstPaid_1 fa_X10_7 hf (fun v1 hf => ?_)
  refine pz_iconst (v := (1 : Int32)) hC dX10_firstPaid_4 (by decide) ?_
  refine pz_iald hC dX10_firstPaid_5 hf (fun v2 hf => ?_)
  refine pz_iconst (v := ((-1) : Int32)) hC dX10_firstPaid_6 (by decide) ?_
  refine pz_icmp_ne hC dX10_firstPaid_7 hf (fun _ hf => ?_) (fun _ hf => ?_)
  · refine pz_aload_n hC dX10_firstPaid_12 0 rfl ?_
    refine pz_getR hC dX10_firstPaid_13 fa_X10_7 hf (fun v3 hf => ?_)
    refine pz_bipush (v := (7 : Int32)) hC dX10_firstPaid_16 (by decide) ?_
    refine pz_iald hC dX10_firstPaid_18 hf (fun v4 hf => ?_)
    refine pz_aload_n hC dX10_firstPaid_19 0 rfl ?_
    refine pz_getR hC dX10_firstPaid_20 fa_X10_7 hf (fun v5 hf => ?_)
    refine pz_iconst (v := (1 : Int32)) hC dX10_firstPaid_23 (by decide) ?_
    refine pz_iald hC dX10_firstPaid_24 hf (fun v6 hf => ?_)
    refine pz_aload_n hC dX10_firstPaid_25 0 rfl ?_
    refine pz_getR hC dX10_firstPaid_26 fa_X10_7 hf (fun v7 hf => ?_)
    refine pz_iconst (v := (0 : Int32)) hC dX10_firstPaid_29 (by decide) ?_
    refine pz_iald hC dX10_firstPaid_30 hf (fun v8 hf => ?_)
    refine pz_isub hC dX10_firstPaid_31 ?_
    refine pz_isub hC dX10_firstPaid_32 ?_
    refine pz_istore_n hC dX10_firstPaid_33 (by decide) rfl ?_
    refine pz_iload_n hC dX10_firstPaid_34 0 rfl ?_
    refine pz_if_le hC dX10_firstPaid_35 hf (fun _ hf => ?_) (fun _ hf => ?_)
    · refine pz_sipush (v := (1000 : Int32)) hC dX10_firstPaid_54 (by decide) ?_
      refine pz_sub [1] rfl ?_
      exact tX10_firstPaid_57 hC hK hf
    · refine pz_sipush (v := (1000 : Int32)) hC dX10_firstPaid_38 (by decide) ?_
      refine pz_aload_n hC dX10_firstPaid_41 1 rfl ?_
      refine pz_getR hC dX10_firstPaid_42 fa_X10_7 hf (fun v9 hf => ?_)
      refine pz_bipush (v := (8 : Int32)) hC dX10_firstPaid_45 (by decide) ?_
      refine pz_iald hC dX10_firstPaid_47 hf (fun v10 hf => ?_)
      refine pz_iload_n hC dX10_firstPaid_48 0 rfl ?_
      refine pz_imul hC dX10_firstPaid_49 ?_
      refine pz_isub hC dX10_firstPaid_50 ?_
      refine pz_goto hC dX10_firstPaid_51 ?_
      refine pz_sub [1] rfl ?_
      exact tX10_firstPaid_57 hC hK hf
  · refine pz_iconst (v := (0 : Int32)) hC dX10_firstPaid_10 (by decide) ?_
    exact pz_iret hC hK dX10_firstPaid_11 hf
def fX10_laysWholes_118 (k21 : pz_H → Nat → Int64 → Int32 → Option pz_H) (f : pz_H) (l0 : Nat) (l1 : Int64) (l3 : Int32) (s0 : Int64) (s1 : Int32) (s2 : Nat) : Option pz_H :=
  (pz_tL f s2 1 s1 s0).bind fun f1 =>
  k21 f1 l0 l1 ((l3 + 1))
theorem tX10_laysWholes_118 {G : pz_G} {C : pz_C} {f : pz_H} {k21 : pz_H → Nat → Int64 → Int32 → Option pz_H} {l0 : Nat} {l1 : Int64} {l3 : Int32} {s0 : Int64} {s1 : Int32} {s2 : Nat} {r : pz_H} (hC : pz_OK G C cX10_laysWholes 6 RX10) (hK : pz_K C none 5 110 0 0) (hk21 : ∀ (g : pz_H) (a0 : Nat) (a1 : Int64) (a3 : Int32), k21 g a0 a1 a3 = some r → pz_W G C 6 21 [(0, .ref a0), (1, .long a1), (3, .int a3)] [] g 0 0 (pz_Q G C none r 0 0)) (hf : fX10_laysWholes_118 k21 f l0 l1 l3 s0 s1 s2 = some r) : pz_W G C 6 118 [(0, .ref l0), (1, .long l1), (3, .int l3)] [.long s0, .int s1, .ref s2] f 0 0 (pz_Q G C none r 0 0) := by
  unfold fX10_laysWholes_118 at hf
  refine pz_last hC dX10_laysWholes_118 hf (fun f1 hf => ?_)
  refine pz_iinc (v := (l3 + 1)) hC dX10_laysWholes_119 2 rfl rfl (by decide) rfl ?_
  refine pz_goto hC dX10_laysWholes_122 ?_
  refine pz_sub [1, 2, 0] rfl ?_
  exact hk21 _ _ _ _ hf
def fX10_laysWholes_103 (k21 : pz_H → Nat → Int64 → Int32 → Option pz_H) (f : pz_H) (l0 : Nat) (l1 : Int64) (l3 : Int32) (l4 : Int32) : Option pz_H :=
  (pz_gR f l0 9 5).bind fun v1 =>
  if l4 = 0 then fX10_laysWholes_118 k21 f l0 l1 l3 ((0 : Int64)) l3 v1 else
  fX10_laysWholes_118 k21 f l0 l1 l3 l1 l3 v1
theorem tX10_laysWholes_103 {G : pz_G} {C : pz_C} {f : pz_H} {k21 : pz_H → Nat → Int64 → Int32 → Option pz_H} {l0 : Nat} {l1 : Int64} {l3 : Int32} {l4 : Int32} {r : pz_H} (hC : pz_OK G C cX10_laysWholes 6 RX10) (hK : pz_K C none 5 110 0 0) (hk21 : ∀ (g : pz_H) (a0 : Nat) (a1 : Int64) (a3 : Int32), k21 g a0 a1 a3 = some r → pz_W G C 6 21 [(0, .ref a0), (1, .long a1), (3, .int a3)] [] g 0 0 (pz_Q G C none r 0 0)) (hf : fX10_laysWholes_103 k21 f l0 l1 l3 l4 = some r) : pz_W G C 6 103 [(0, .ref l0), (1, .long l1), (3, .int l3), (4, .int l4)] [] f 0 0 (pz_Q G C none r 0 0) := by
  unfold fX10_laysWholes_103 at hf
  refine pz_aload_n hC dX10_laysWholes_103 0 rfl ?_
  refine pz_getR hC dX10_laysWholes_104 fa_X10_19 hf (fun v1 hf => ?_)
  refine pz_iload_n hC dX10_laysWholes_107 2 rfl ?_
  refine pz_iload hC dX10_laysWholes_108 3 rfl ?_
  refine pz_if_eq hC dX10_laysWholes_110 hf (fun _ hf => ?_) (fun _ hf => ?_)
  · refine pz_lconst (v := 0) hC dX10_laysWholes_117 (by decide) ?_
    refine pz_sub [0, 1, 2] rfl ?_
    exact tX10_laysWholes_118 hC hK hk21 hf
  · refine pz_lload_n hC dX10_laysWholes_113 1 rfl ?_
    refine pz_goto hC dX10_laysWholes_114 ?_
    refine pz_sub [0, 1, 2] rfl ?_
    exact tX10_laysWholes_118 hC hK hk21 hf
def fX10_laysWholes_53 (k21 : pz_H → Nat → Int64 → Int32 → Option pz_H) (f : pz_H) (l0 : Nat) (l1 : Int64) (l3 : Int32) (s0 : Int32) : Option pz_H :=
  if s0 = 0 then fX10_laysWholes_103 k21 f l0 l1 l3 s0 else
  (pz_gR f l0 9 1).bind fun v1 =>
  (pz_aI f v1 0 ((1 : Int32))).bind fun v2 =>
  if l3 ≤ v2 then fX10_laysWholes_103 k21 f l0 l1 l3 s0 else
  (pz_gR f l0 9 1).bind fun v3 =>
  (pz_aI f v3 0 ((1 : Int32))).bind fun v4 =>
  if ((l3 - v4) - (l3 - v4) / (12 : Int32) * (12 : Int32)) = 0 then (pz_gR f l0 9 1).bind fun v5 =>
  (pz_aI f v5 0 ((9 : Int32))).bind fun v6 =>
  fX10_laysWholes_103 k21 f l0 (((l1 * (((1000 : Int32) + v6)).toInt64) / (1000 : Int64))) l3 s0 else
  fX10_laysWholes_103 k21 f l0 l1 l3 s0
theorem tX10_laysWholes_53 {G : pz_G} {C : pz_C} {f : pz_H} {k21 : pz_H → Nat → Int64 → Int32 → Option pz_H} {l0 : Nat} {l1 : Int64} {l3 : Int32} {s0 : Int32} {r : pz_H} (hC : pz_OK G C cX10_laysWholes 6 RX10) (hK : pz_K C none 5 110 0 0) (hk21 : ∀ (g : pz_H) (a0 : Nat) (a1 : Int64) (a3 : Int32), k21 g a0 a1 a3 = some r → pz_W G C 6 21 [(0, .ref a0), (1, .long a1), (3, .int a3)] [] g 0 0 (pz_Q G C none r 0 0)) (hf : fX10_laysWholes_53 k21 f l0 l1 l3 s0 = some r) : pz_W G C 6 53 [(0, .ref l0), (1, .long l1), (3, .int l3)] [.int s0] f 0 0 (pz_Q G C none r 0 0) := by
  unfold fX10_laysWholes_53 at hf
  refine pz_istore hC dX10_laysWholes_53 (by decide) rfl ?_
  refine pz_iload hC dX10_laysWholes_55 0 rfl ?_
  refine pz_if_eq hC dX10_laysWholes_57 hf (fun _ hf => ?_) (fun _ hf => ?_)
  · refine pz_sub [1, 2, 3, 0] rfl ?_
    exact tX10_laysWholes_103 hC hK hk21 hf
  · refine pz_iload_n hC dX10_laysWholes_60 3 rfl ?_
    refine pz_aload_n hC dX10_laysWholes_61 1 rfl ?_
    refine pz_getR hC dX10_laysWholes_62 fa_X10_7 hf (fun v1 hf => ?_)
    refine pz_iconst (v := (1 : Int32)) hC dX10_laysWholes_65 (by decide) ?_
    refine pz_iald hC dX10_laysWholes_66 hf (fun v2 hf => ?_)
    refine pz_icmp_le hC dX10_laysWholes_67 hf (fun _ hf => ?_) (fun _ hf => ?_)
    · refine pz_sub [1, 2, 3, 0] rfl ?_
      exact tX10_laysWholes_103 hC hK hk21 hf
    · refine pz_iload_n hC dX10_laysWholes_70 3 rfl ?_
      refine pz_aload_n hC dX10_laysWholes_71 1 rfl ?_
      refine pz_getR hC dX10_laysWholes_72 fa_X10_7 hf (fun v3 hf => ?_)
      refine pz_iconst (v := (1 : Int32)) hC dX10_laysWholes_75 (by decide) ?_
      refine pz_iald hC dX10_laysWholes_76 hf (fun v4 hf => ?_)
      refine pz_isub hC dX10_laysWholes_77 ?_
      refine pz_bipush (v := (12 : Int32)) hC dX10_laysWholes_78 (by decide) ?_
      refine pz_iremc hC dX10_laysWholes_80 (by decide) ?_
      refine pz_if_ne hC dX10_laysWholes_81 hf (fun _ hf => ?_) (fun _ hf => ?_)
      · refine pz_sub [1, 2, 3, 0] rfl ?_
        exact tX10_laysWholes_103 hC hK hk21 hf
      · refine pz_lload_n hC dX10_laysWholes_84 2 rfl ?_
        refine pz_sipush (v := (1000 : Int32)) hC dX10_laysWholes_85 (by decide) ?_
        refine pz_aload_n hC dX10_laysWholes_88 1 rfl ?_
        refine pz_getR hC dX10_laysWholes_89 fa_X10_7 hf (fun v5 hf => ?_)
        refine pz_bipush (v := (9 : Int32)) hC dX10_laysWholes_92 (by decide) ?_
        refine pz_iald hC dX10_laysWholes_94 hf (fun v6 hf => ?_)
        refine pz_iadd hC dX10_laysWholes_95 ?_
        refine pz_i2l hC dX10_laysWholes_96 ?_
        refine pz_lmul hC dX10_laysWholes_97 ?_
        refine pz_ldc2 hC dX10_laysWholes_98 ck_X10_78 ?_
        refine pz_ldivc hC dX10_laysWholes_101 (by decide) ?_
        refine pz_lstore_n hC dX10_laysWholes_102 (by decide) rfl ?_
        refine pz_sub [2, 0, 3, 1] rfl ?_
        exact tX10_laysWholes_103 hC hK hk21 hf
def fX10_laysWholes_52 (k21 : pz_H → Nat → Int64 → Int32 → Option pz_H) (f : pz_H) (l0 : Nat) (l1 : Int64) (l3 : Int32) : Option pz_H :=
  fX10_laysWholes_53 k21 f l0 l1 l3 ((0 : Int32))
theorem tX10_laysWholes_52 {G : pz_G} {C : pz_C} {f : pz_H} {k21 : pz_H → Nat → Int64 → Int32 → Option pz_H} {l0 : Nat} {l1 : Int64} {l3 : Int32} {r : pz_H} (hC : pz_OK G C cX10_laysWholes 6 RX10) (hK : pz_K C none 5 110 0 0) (hk21 : ∀ (g : pz_H) (a0 : Nat) (a1 : Int64) (a3 : Int32), k21 g a0 a1 a3 = some r → pz_W G C 6 21 [(0, .ref a0), (1, .long a1), (3, .int a3)] [] g 0 0 (pz_Q G C none r 0 0)) (hf : fX10_laysWholes_52 k21 f l0 l1 l3 = some r) : pz_W G C 6 52 [(0, .ref l0), (1, .long l1), (3, .int l3)] [] f 0 0 (pz_Q G C none r 0 0) := by
  unfold fX10_laysWholes_52 at hf
  refine pz_iconst (v := (0 : Int32)) hC dX10_laysWholes_52 (by decide) ?_
  exact tX10_laysWholes_53 hC hK hk21 hf
def fX10_laysWholes_132b (k132 : pz_H → Nat → Int64 → Int32 → Option pz_H) (f : pz_H) (l0 : Nat) (l3 : Int64) (l5 : Int32) : Option pz_H :=
  if (1800 : Int32) ≤ l5 then some f else
  (pz_gR f l0 9 7).bind fun v1 =>
  (pz_tL f v1 1 l5 l3).bind fun f2 =>
  (pz_gR f2 l0 9 1).bind fun v3 =>
  (pz_aI f2 v3 0 ((10 : Int32))).bind fun v4 =>
  if ((12000 : Int64) + v4.toInt64) = 0 then none else
  k132 f2 l0 (((l3 * (12000 : Int64)) / ((12000 : Int64) + v4.toInt64))) ((l5 + 1))
theorem tX10_laysWholes_132b {G : pz_G} {C : pz_C} {f : pz_H} {k132 : pz_H → Nat → Int64 → Int32 → Option pz_H} {l0 : Nat} {l3 : Int64} {l5 : Int32} {r : pz_H} (hC : pz_OK G C cX10_laysWholes 6 RX10) (hK : pz_K C none 5 110 0 0) (hk132 : ∀ (g : pz_H) (a0 : Nat) (a3 : Int64) (a5 : Int32), k132 g a0 a3 a5 = some r → pz_W G C 6 132 [(0, .ref a0), (3, .long a3), (5, .int a5)] [] g 0 0 (pz_Q G C none r 0 0)) (hf : fX10_laysWholes_132b k132 f l0 l3 l5 = some r) : pz_W G C 6 132 [(0, .ref l0), (3, .long l3), (5, .int l5)] [] f 0 0 (pz_Q G C none r 0 0) := by
  unfold fX10_laysWholes_132b at hf
  refine pz_iload hC dX10_laysWholes_132 2 rfl ?_
  refine pz_sipush (v := (1800 : Int32)) hC dX10_laysWholes_134 (by decide) ?_
  refine pz_icmp_ge hC dX10_laysWholes_137 hf (fun _ hf => ?_) (fun _ hf => ?_)
  · exact pz_vret hC hK dX10_laysWholes_173 hf
  · refine pz_aload_n hC dX10_laysWholes_140 0 rfl ?_
    refine pz_getR hC dX10_laysWholes_141 fa_X10_23 hf (fun v1 hf => ?_)
    refine pz_iload hC dX10_laysWholes_144 2 rfl ?_
    refine pz_lload_n hC dX10_laysWholes_146 1 rfl ?_
    refine pz_last hC dX10_laysWholes_147 hf (fun f2 hf => ?_)
    refine pz_lload_n hC dX10_laysWholes_148 1 rfl ?_
    refine pz_ldc2 hC dX10_laysWholes_149 ck_X10_89 ?_
    refine pz_lmul hC dX10_laysWholes_152 ?_
    refine pz_ldc2 hC dX10_laysWholes_153 ck_X10_89 ?_
    refine pz_aload_n hC dX10_laysWholes_156 0 rfl ?_
    refine pz_getR hC dX10_laysWholes_157 fa_X10_7 hf (fun v3 hf => ?_)
    refine pz_bipush (v := (10 : Int32)) hC dX10_laysWholes_160 (by decide) ?_
    refine pz_iald hC dX10_laysWholes_162 hf (fun v4 hf => ?_)
    refine pz_i2l hC dX10_laysWholes_163 ?_
    refine pz_ladd hC dX10_laysWholes_164 ?_
    refine pz_ldiv hC dX10_laysWholes_165 hf (fun hf => ?_)
    refine pz_lstore_n hC dX10_laysWholes_166 (by decide) rfl ?_
    refine pz_iinc (v := (l5 + 1)) hC dX10_laysWholes_167 2 rfl rfl (by decide) rfl ?_
    refine pz_goto hC dX10_laysWholes_170 ?_
    refine pz_sub [2, 1, 0] rfl ?_
    exact hk132 _ _ _ _ hf
def fX10_laysWholes_132 : Nat → pz_H → Nat → Int64 → Int32 → Option pz_H
  | 0, _, _, _, _ => none
  | n + 1, f, l0, l3, l5 => fX10_laysWholes_132b (fX10_laysWholes_132 n) f l0 l3 l5
theorem tX10_laysWholes_132 {G : pz_G} {C : pz_C} {r : pz_H} (hC : pz_OK G C cX10_laysWholes 6 RX10) (hK : pz_K C none 5 110 0 0) : ∀ (N : Nat) (f : pz_H) (l0 : Nat) (l3 : Int64) (l5 : Int32), fX10_laysWholes_132 N f l0 l3 l5 = some r → pz_W G C 6 132 [(0, .ref l0), (3, .long l3), (5, .int l5)] [] f 0 0 (pz_Q G C none r 0 0) := by
  intro N
  induction N with
  | zero => intro f l0 l3 l5 hf; cases hf
  | succ N ih => intro f l0 l3 l5 hf; exact tX10_laysWholes_132b hC hK (fun f l0 l3 l5 hf => ih f l0 l3 l5 hf) hf
def fX10_laysWholes_21b (k21 : pz_H → Nat → Int64 → Int32 → Option pz_H) (f : pz_H) (l0 : Nat) (l1 : Int64) (l3 : Int32) : Option pz_H :=
  if (1800 : Int32) ≤ l3 then fX10_laysWholes_132 pz_F f l0 ((1000000000 : Int64)) ((0 : Int32)) else
  (pz_gR f l0 9 1).bind fun v1 =>
  (pz_aI f v1 0 ((1 : Int32))).bind fun v2 =>
  if v2 = ((-1) : Int32) then fX10_laysWholes_52 k21 f l0 l1 l3 else
  (pz_gR f l0 9 1).bind fun v3 =>
  (pz_aI f v3 0 ((1 : Int32))).bind fun v4 =>
  if l3 < v4 then fX10_laysWholes_52 k21 f l0 l1 l3 else
  fX10_laysWholes_53 k21 f l0 l1 l3 ((1 : Int32))
theorem tX10_laysWholes_21b {G : pz_G} {C : pz_C} {f : pz_H} {k21 : pz_H → Nat → Int64 → Int32 → Option pz_H} {l0 : Nat} {l1 : Int64} {l3 : Int32} {r : pz_H} (hC : pz_OK G C cX10_laysWholes 6 RX10) (hK : pz_K C none 5 110 0 0) (hk21 : ∀ (g : pz_H) (a0 : Nat) (a1 : Int64) (a3 : Int32), k21 g a0 a1 a3 = some r → pz_W G C 6 21 [(0, .ref a0), (1, .long a1), (3, .int a3)] [] g 0 0 (pz_Q G C none r 0 0)) (hf : fX10_laysWholes_21b k21 f l0 l1 l3 = some r) : pz_W G C 6 21 [(0, .ref l0), (1, .long l1), (3, .int l3)] [] f 0 0 (pz_Q G C none r 0 0) := by
  unfold fX10_laysWholes_21b at hf
  refine pz_iload_n hC dX10_laysWholes_21 2 rfl ?_
  refine pz_sipush (v := (1800 : Int32)) hC dX10_laysWholes_22 (by decide) ?_
  refine pz_icmp_ge hC dX10_laysWholes_25 hf (fun _ hf => ?_) (fun _ hf => ?_)
  · refine pz_ldc2 hC dX10_laysWholes_125 ck_X10_87 ?_
    refine pz_lstore_n hC dX10_laysWholes_128 (by decide) rfl ?_
    refine pz_iconst (v := (0 : Int32)) hC dX10_laysWholes_129 (by decide) ?_
    refine pz_istore hC dX10_laysWholes_130 (by decide) rfl ?_
    refine pz_sub [2, 1, 0] rfl ?_
    exact tX10_laysWholes_132 hC hK _ _ _ _ _ hf
  · refine pz_aload_n hC dX10_laysWholes_28 0 rfl ?_
    refine pz_getR hC dX10_laysWholes_29 fa_X10_7 hf (fun v1 hf => ?_)
    refine pz_iconst (v := (1 : Int32)) hC dX10_laysWholes_32 (by decide) ?_
    refine pz_iald hC dX10_laysWholes_33 hf (fun v2 hf => ?_)
    refine pz_iconst (v := ((-1) : Int32)) hC dX10_laysWholes_34 (by decide) ?_
    refine pz_icmp_eq hC dX10_laysWholes_35 hf (fun _ hf => ?_) (fun _ hf => ?_)
    · exact tX10_laysWholes_52 hC hK hk21 hf
    · refine pz_iload_n hC dX10_laysWholes_38 2 rfl ?_
      refine pz_aload_n hC dX10_laysWholes_39 0 rfl ?_
      refine pz_getR hC dX10_laysWholes_40 fa_X10_7 hf (fun v3 hf => ?_)
      refine pz_iconst (v := (1 : Int32)) hC dX10_laysWholes_43 (by decide) ?_
      refine pz_iald hC dX10_laysWholes_44 hf (fun v4 hf => ?_)
      refine pz_icmp_lt hC dX10_laysWholes_45 hf (fun _ hf => ?_) (fun _ hf => ?_)
      · exact tX10_laysWholes_52 hC hK hk21 hf
      · refine pz_iconst (v := (1 : Int32)) hC dX10_laysWholes_48 (by decide) ?_
        refine pz_goto hC dX10_laysWholes_49 ?_
        exact tX10_laysWholes_53 hC hK hk21 hf
def fX10_laysWholes_21 : Nat → pz_H → Nat → Int64 → Int32 → Option pz_H
  | 0, _, _, _, _ => none
  | n + 1, f, l0, l1, l3 => fX10_laysWholes_21b (fX10_laysWholes_21 n) f l0 l1 l3
theorem tX10_laysWholes_21 {G : pz_G} {C : pz_C} {r : pz_H} (hC : pz_OK G C cX10_laysWholes 6 RX10) (hK : pz_K C none 5 110 0 0) : ∀ (N : Nat) (f : pz_H) (l0 : Nat) (l1 : Int64) (l3 : Int32), fX10_laysWholes_21 N f l0 l1 l3 = some r → pz_W G C 6 21 [(0, .ref l0), (1, .long l1), (3, .int l3)] [] f 0 0 (pz_Q G C none r 0 0) := by
  intro N
  induction N with
  | zero => intro f l0 l1 l3 hf; cases hf
  | succ N ih => intro f l0 l1 l3 hf; exact tX10_laysWholes_21b hC hK (fun f l0 l1 l3 hf => ih f l0 l1 l3 hf) hf
def fnX10_laysWholes (f : pz_H) (a0 : Nat) : Option pz_H :=
  (pz_is f a0 9).bind fun _ =>
  (pz_gI f a0 9 6).bind fun v1 =>
  if v1 = 0 then (pz_sV f a0 9 6 (.int (1 : Int32))).bind fun f2 =>
  (fnX10_firstPaid f2 a0).bind fun x3 =>
  fX10_laysWholes_21 pz_F f2 a0 x3.toInt64 ((0 : Int32)) else
  some f
theorem mX10_laysWholes {l : Launch} {G : pz_G} {f : pz_H} {a0 : Nat} {r : pz_H} (hf : fnX10_laysWholes f a0 = some r) : pz_Met l G yX10_laysWholes cX10_laysWholes 6 none 5 110 0 0 [.ref a0] f none r ∧ pz_is f a0 9 = some () := by
  unfold fnX10_laysWholes at hf
  obtain ⟨_, h0, hf⟩ := pz_bd hf
  refine ⟨pz_enter (by decide +kernel) (Nat.le_of_ble_eq_true rfl) (fun C hl hC hK hnm => ?_), h0⟩
  subst hl
  refine pz_sub (lv' := [(0, .ref a0)]) [0] rfl ?_
  refine pz_aload_n hC dX10_laysWholes_0 0 rfl ?_
  refine pz_getI hC dX10_laysWholes_1 fa_X10_80 hf (fun v1 hf => ?_)
  refine pz_if_eq hC dX10_laysWholes_4 hf (fun _ hf => ?_) (fun _ hf => ?_)
  · refine pz_aload_n hC dX10_laysWholes_8 0 rfl ?_
    refine pz_iconst (v := (1 : Int32)) hC dX10_laysWholes_9 (by decide) ?_
    refine pz_putV hC dX10_laysWholes_10 fp_X10_80 (by decide) (by decide) hf (fun f2 hf => ?_)
    refine pz_aload_n hC dX10_laysWholes_13 0 rfl ?_
    refine pz_Vi (As := []) hC hK dX10_laysWholes_14 py_X10_firstPaid pv_X10_firstPaid lk_X10_84 hf (fun _ h => mX10_firstPaid h) rfl rfl (Nat.le_of_ble_eq_true rfl) ⟨by decide, by decide⟩ ⟨Nat.le_of_ble_eq_true rfl, Nat.le_of_ble_eq_true rfl⟩ (fun x3 hf => ?_)
    refine pz_i2l hC dX10_laysWholes_17 ?_
    refine pz_lstore_n hC dX10_laysWholes_18 (by decide) rfl ?_
    refine pz_iconst (v := (0 : Int32)) hC dX10_laysWholes_19 (by decide) ?_
    refine pz_istore_n hC dX10_laysWholes_20 (by decide) rfl ?_
    refine pz_sub [2, 1, 0] rfl ?_
    exact tX10_laysWholes_21 hC hK _ _ _ _ _ hf
  · exact pz_vret hC hK dX10_laysWholes_7 hf
def fX10_wedIn_28 (f : pz_H) (s0 : Int32) : Option Int32 :=
  some s0
theorem tX10_wedIn_28 {G : pz_G} {C : pz_C} {f : pz_H} {s0 : Int32} {r : Int32} (hC : pz_OK G C cX10_wedIn 2 RX10) (hK : pz_K C (some .int) 2 48 0 0) (hf : fX10_wedIn_28 f s0 = some r) : pz_W G C 2 28 [] [.int s0] f 0 0 (pz_Q G C (some (.int r)) f 0 0) := by
  unfold fX10_wedIn_28 at hf
  exact pz_iret hC hK dX10_wedIn_28 hf
def fnX10_wedIn (f : pz_H) (a0 : Nat) (p1 : Int32) : Option Int32 :=
  (pz_is f a0 9).bind fun _ =>
  (fnX10_isParted f a0 p1).bind fun x1 =>
  if x1 = 0 then fX10_wedIn_28 f ((0 : Int32)) else
  (fnX10_its f a0 p1 ((1 : Int32))).bind fun x2 =>
  (fnX10_its f a0 p1 ((2 : Int32))).bind fun x3 =>
  (fnX10_serviceIn f a0 x2 x3).bind fun x4 =>
  fX10_wedIn_28 f x4
theorem mX10_wedIn {l : Launch} {G : pz_G} {f : pz_H} {a0 : Nat} {p1 : Int32} {r : Int32} (hf : fnX10_wedIn f a0 p1 = some r) : pz_Met l G yX10_wedIn cX10_wedIn 2 (some .int) 2 48 0 0 [.ref a0, .int p1] f (some (.int r)) f ∧ pz_is f a0 9 = some () := by
  unfold fnX10_wedIn at hf
  obtain ⟨_, h0, hf⟩ := pz_bd hf
  refine ⟨pz_enter (by decide +kernel) (Nat.le_of_ble_eq_true rfl) (fun C hl hC hK hnm => ?_), h0⟩
  subst hl
  refine pz_sub (lv' := [(0, .ref a0), (1, .int p1)]) [0, 1] rfl ?_
  refine pz_aload_n hC dX10_wedIn_0 0 rfl ?_
  refine pz_iload_n hC dX10_wedIn_1 1 rfl ?_
  refine pz_Vi (As := [.int p1]) hC hK dX10_wedIn_2 py_X10_isParted pv_X10_isParted lk_X10_91 hf (fun _ h => mX10_isParted h) rfl rfl (Nat.le_of_ble_eq_true rfl) ⟨by decide, by decide⟩ ⟨Nat.le_of_ble_eq_true rfl, Nat.le_of_ble_eq_true rfl⟩ (fun x1 hf => ?_)
  refine pz_if_eq hC dX10_wedIn_5 hf (fun _ hf => ?_) (fun _ hf => ?_)
  · refine pz_iconst (v := (0 : Int32)) hC dX10_wedIn_27 (by decide) ?_
    refine pz_sub [] rfl ?_
    exact tX10_wedIn_28 hC hK hf
  · refine pz_aload_n hC dX10_wedIn_8 0 rfl ?_
    refine pz_aload_n hC dX10_wedIn_9 0 rfl ?_
    refine pz_iload_n hC dX10_wedIn_10 1 rfl ?_
    refine pz_iconst (v := (1 : Int32)) hC dX10_wedIn_11 (by decide) ?_
    refine pz_Vi (As := [.int p1, .int (1 : Int32)]) hC hK dX10_wedIn_12 py_X10_its pv_X10_its lk_X10_56 hf (fun _ h => mX10_its h) rfl rfl (Nat.le_of_ble_eq_true rfl) ⟨by decide, by decide⟩ ⟨Nat.le_of_ble_eq_true rfl, Nat.le_of_ble_eq_true rfl⟩ (fun x2 hf => ?_)
    refine pz_aload_n hC dX10_wedIn_15 0 rfl ?_
    refine pz_iload_n hC dX10_wedIn_16 1 rfl ?_
    refine pz_iconst (v := (2 : Int32)) hC dX10_wedIn_17 (by decide) ?_
    refine pz_Vi (As := [.int p1, .int (2 : Int32)]) hC hK dX10_wedIn_18 py_X10_its pv_X10_its lk_X10_56 hf (fun _ h => mX10_its h) rfl rfl (Nat.le_of_ble_eq_true rfl) ⟨by decide, by decide⟩ ⟨Nat.le_of_ble_eq_true rfl, Nat.le_of_ble_eq_true rfl⟩ (fun x3 hf => ?_)
    refine pz_Vi (As := [.int x2, .int x3]) hC hK dX10_wedIn_21 py_X10_serviceIn pv_X10_serviceIn lk_X10_63 hf (fun _ h => mX10_serviceIn h) rfl rfl (Nat.le_of_ble_eq_true rfl) ⟨by decide, by decide⟩ ⟨Nat.le_of_ble_eq_true rfl, Nat.le_of_ble_eq_true rfl⟩ (fun x4 hf => ?_)
    refine pz_goto hC dX10_wedIn_24 ?_
    refine pz_sub [] rfl ?_
    exact tX10_wedIn_28 hC hK hf
def fX10_shareIn_45 (f : pz_H) (s0 : Int64) : Option (Int64 × pz_H) :=
  some (s0, f)
theorem tX10_shareIn_45 {G : pz_G} {C : pz_C} {f : pz_H} {s0 : Int64} {r : (Int64 × pz_H)} (hC : pz_OK G C cX10_shareIn 4 RX10) (hK : pz_K C (some .long) 6 135 0 0) (hf : fX10_shareIn_45 f s0 = some r) : pz_W G C 4 45 [] [.long s0] f 0 0 (pz_Q G C (some (.long r.1)) r.2 0 0) := by
  unfold fX10_shareIn_45 at hf
  exact pz_lretw hC hK dX10_shareIn_45 hf
def fnX10_shareIn (f : pz_H) (a0 : Nat) (p1 : Int32) (p2 : Int32) : Option (Int64 × pz_H) :=
  (pz_is f a0 9).bind fun _ =>
  (fnX10_laysWholes f a0).bind fun x1 =>
  (fnX10_served x1 a0).bind fun x2 =>
  if x2 = 0 then fX10_shareIn_45 x1 ((0 : Int64)) else
  (pz_gR x1 a0 9 5).bind fun v3 =>
  (pz_aL x1 v3 1 p2).bind fun v4 =>
  (fnX10_its x1 a0 p1 ((3 : Int32))).bind fun x5 =>
  (fnX10_wedIn x1 a0 p1).bind fun x6 =>
  if ((1000 : Int64) * x2.toInt64) = 0 then none else
  fX10_shareIn_45 x1 ((((v4 * x5.toInt64) * x6.toInt64) / ((1000 : Int64) * x2.toInt64)))
theorem mX10_shareIn {l : Launch} {G : pz_G} {f : pz_H} {a0 : Nat} {p1 : Int32} {p2 : Int32} {r : (Int64 × pz_H)} (hf : fnX10_shareIn f a0 p1 p2 = some r) : pz_Met l G yX10_shareIn cX10_shareIn 4 (some .long) 6 135 0 0 [.ref a0, .int p1, .int p2] f (some (.long r.1)) r.2 ∧ pz_is f a0 9 = some () := by
  unfold fnX10_shareIn at hf
  obtain ⟨_, h0, hf⟩ := pz_bd hf
  refine ⟨pz_enter (by decide +kernel) (Nat.le_of_ble_eq_true rfl) (fun C hl hC hK hnm => ?_), h0⟩
  subst hl
  refine pz_sub (lv' := [(0, .ref a0), (1, .int p1), (2, .int p2)]) [0, 1, 2] rfl ?_
  refine pz_aload_n hC dX10_shareIn_0 0 rfl ?_
  refine pz_Vv (As := []) hC hK dX10_shareIn_1 py_X10_laysWholes pv_X10_laysWholes lk_X10_95 hf (fun _ h => mX10_laysWholes h) rfl rfl (Nat.le_of_ble_eq_true rfl) ⟨by decide, by decide⟩ ⟨Nat.le_of_ble_eq_true rfl, Nat.le_of_ble_eq_true rfl⟩ (fun x1 hf => ?_)
  refine pz_aload_n hC dX10_shareIn_4 0 rfl ?_
  refine pz_Vi (As := []) hC hK dX10_shareIn_5 py_X10_served pv_X10_served lk_X10_70 hf (fun _ h => mX10_served h) rfl rfl (Nat.le_of_ble_eq_true rfl) ⟨by decide, by decide⟩ ⟨Nat.le_of_ble_eq_true rfl, Nat.le_of_ble_eq_true rfl⟩ (fun x2 hf => ?_)
  refine pz_istore_n hC dX10_shareIn_8 (by decide) rfl ?_
  refine pz_iload_n hC dX10_shareIn_9 0 rfl ?_
  refine pz_if_ne hC dX10_shareIn_10 hf (fun _ hf => ?_) (fun _ hf => ?_)
  · refine pz_aload_n hC dX10_shareIn_17 1 rfl ?_
    refine pz_getR hC dX10_shareIn_18 fa_X10_19 hf (fun v3 hf => ?_)
    refine pz_iload_n hC dX10_shareIn_21 3 rfl ?_
    refine pz_lald hC dX10_shareIn_22 hf (fun v4 hf => ?_)
    refine pz_aload_n hC dX10_shareIn_23 1 rfl ?_
    refine pz_iload_n hC dX10_shareIn_24 2 rfl ?_
    refine pz_iconst (v := (3 : Int32)) hC dX10_shareIn_25 (by decide) ?_
    refine pz_Vi (As := [.int p1, .int (3 : Int32)]) hC hK dX10_shareIn_26 py_X10_its pv_X10_its lk_X10_56 hf (fun _ h => mX10_its h) rfl rfl (Nat.le_of_ble_eq_true rfl) ⟨by decide, by decide⟩ ⟨Nat.le_of_ble_eq_true rfl, Nat.le_of_ble_eq_true rfl⟩ (fun x5 hf => ?_)
    refine pz_i2l hC dX10_shareIn_29 ?_
    refine pz_lmul hC dX10_shareIn_30 ?_
    refine pz_aload_n hC dX10_shareIn_31 1 rfl ?_
    refine pz_iload_n hC dX10_shareIn_32 2 rfl ?_
    refine pz_Vi (As := [.int p1]) hC hK dX10_shareIn_33 py_X10_wedIn pv_X10_wedIn lk_X10_98 hf (fun _ h => mX10_wedIn h) rfl rfl (Nat.le_of_ble_eq_true rfl) ⟨by decide, by decide⟩ ⟨Nat.le_of_ble_eq_true rfl, Nat.le_of_ble_eq_true rfl⟩ (fun x6 hf => ?_)
    refine pz_i2l hC dX10_shareIn_36 ?_
    refine pz_lmul hC dX10_shareIn_37 ?_
    refine pz_ldc2 hC dX10_shareIn_38 ck_X10_78 ?_
    refine pz_iload_n hC dX10_shareIn_41 0 rfl ?_
    refine pz_i2l hC dX10_shareIn_42 ?_
    refine pz_lmul hC dX10_shareIn_43 ?_
    refine pz_ldiv hC dX10_shareIn_44 hf (fun hf => ?_)
    refine pz_sub [] rfl ?_
    exact tX10_shareIn_45 hC hK hf
  · refine pz_lconst (v := 0) hC dX10_shareIn_13 (by decide) ?_
    refine pz_goto hC dX10_shareIn_14 ?_
    refine pz_sub [] rfl ?_
    exact tX10_shareIn_45 hC hK hf
def fX10_begin_46 (f : pz_H) (s0 : Int32) : Option Int32 :=
  some s0
theorem tX10_begin_46 {G : pz_G} {C : pz_C} {f : pz_H} {s0 : Int32} {r : Int32} (hC : pz_OK G C cX10_begin 2 RX10) (hK : pz_K C (some .int) 1 22 0 0) (hf : fX10_begin_46 f s0 = some r) : pz_W G C 2 46 [] [.int s0] f 0 0 (pz_Q G C (some (.int r)) f 0 0) := by
  unfold fX10_begin_46 at hf
  exact pz_iret hC hK dX10_begin_46 hf
def fnX10_begin (f : pz_H) (a0 : Nat) (p1 : Int32) : Option Int32 :=
  (pz_is f a0 9).bind fun _ =>
  (pz_gR f a0 9 1).bind fun v1 =>
  (pz_aI f v1 0 ((1 : Int32))).bind fun v2 =>
  if v2 = ((-1) : Int32) then fX10_begin_46 f (((-1) : Int32)) else
  (pz_gR f a0 9 1).bind fun v3 =>
  (pz_aI f v3 0 ((1 : Int32))).bind fun v4 =>
  (fnX10_its f a0 p1 ((6 : Int32))).bind fun x5 =>
  if v4 ≤ x5 then (fnX10_its f a0 p1 ((6 : Int32))).bind fun x6 =>
  fX10_begin_46 f x6 else
  (pz_gR f a0 9 1).bind fun v7 =>
  (pz_aI f v7 0 ((1 : Int32))).bind fun v8 =>
  fX10_begin_46 f v8
theorem mX10_begin {l : Launch} {G : pz_G} {f : pz_H} {a0 : Nat} {p1 : Int32} {r : Int32} (hf : fnX10_begin f a0 p1 = some r) : pz_Met l G yX10_begin cX10_begin 2 (some .int) 1 22 0 0 [.ref a0, .int p1] f (some (.int r)) f ∧ pz_is f a0 9 = some () := by
  unfold fnX10_begin at hf
  obtain ⟨_, h0, hf⟩ := pz_bd hf
  refine ⟨pz_enter (by decide +kernel) (Nat.le_of_ble_eq_true rfl) (fun C hl hC hK hnm => ?_), h0⟩
  subst hl
  refine pz_sub (lv' := [(0, .ref a0), (1, .int p1)]) [0, 1] rfl ?_
  refine pz_aload_n hC dX10_begin_0 0 rfl ?_
  refine pz_getR hC dX10_begin_1 fa_X10_7 hf (fun v1 hf => ?_)
  refine pz_iconst (v := (1 : Int32)) hC dX10_begin_4 (by decide) ?_
  refine pz_iald hC dX10_begin_5 hf (fun v2 hf => ?_)
  refine pz_iconst (v := ((-1) : Int32)) hC dX10_begin_6 (by decide) ?_
  refine pz_icmp_ne hC dX10_begin_7 hf (fun _ hf => ?_) (fun _ hf => ?_)
  · refine pz_aload_n hC dX10_begin_14 0 rfl ?_
    refine pz_getR hC dX10_begin_15 fa_X10_7 hf (fun v3 hf => ?_)
    refine pz_iconst (v := (1 : Int32)) hC dX10_begin_18 (by decide) ?_
    refine pz_iald hC dX10_begin_19 hf (fun v4 hf => ?_)
    refine pz_aload_n hC dX10_begin_20 0 rfl ?_
    refine pz_iload_n hC dX10_begin_21 1 rfl ?_
    refine pz_bipush (v := (6 : Int32)) hC dX10_begin_22 (by decide) ?_
    refine pz_Vi (As := [.int p1, .int (6 : Int32)]) hC hK dX10_begin_24 py_X10_its pv_X10_its lk_X10_56 hf (fun _ h => mX10_its h) rfl rfl (Nat.le_of_ble_eq_true rfl) ⟨by decide, by decide⟩ ⟨Nat.le_of_ble_eq_true rfl, Nat.le_of_ble_eq_true rfl⟩ (fun x5 hf => ?_)
    refine pz_icmp_le hC dX10_begin_27 hf (fun _ hf => ?_) (fun _ hf => ?_)
    · refine pz_aload_n hC dX10_begin_39 0 rfl ?_
      refine pz_iload_n hC dX10_begin_40 1 rfl ?_
      refine pz_bipush (v := (6 : Int32)) hC dX10_begin_41 (by decide) ?_
      refine pz_Vi (As := [.int p1, .int (6 : Int32)]) hC hK dX10_begin_43 py_X10_its pv_X10_its lk_X10_56 hf (fun _ h => mX10_its h) rfl rfl (Nat.le_of_ble_eq_true rfl) ⟨by decide, by decide⟩ ⟨Nat.le_of_ble_eq_true rfl, Nat.le_of_ble_eq_true rfl⟩ (fun x6 hf => ?_)
      refine pz_sub [] rfl ?_
      exact tX10_begin_46 hC hK hf
    · refine pz_aload_n hC dX10_begin_30 0 rfl ?_
      refine pz_getR hC dX10_begin_31 fa_X10_7 hf (fun v7 hf => ?_)
      refine pz_iconst (v := (1 : Int32)) hC dX10_begin_34 (by decide) ?_
      refine pz_iald hC dX10_begin_35 hf (fun v8 hf => ?_)
      refine pz_goto hC dX10_begin_36 ?_
      refine pz_sub [] rfl ?_
      exact tX10_begin_46 hC hK hf
  · refine pz_iconst (v := ((-1) : Int32)) hC dX10_begin_10 (by decide) ?_
    refine pz_goto hC dX10_begin_11 ?_
    refine pz_sub [] rfl ?_
    exact tX10_begin_46 hC hK hf
def fX10_livesAt_108 (k25 : Nat → Int32 → Int32 → Int32 → Int32 → Int32 → Int32 → Option Int32) (f : pz_H) (l0 : Nat) (l1 : Int32) (l2 : Int32) (l3 : Int32) (l4 : Int32) (l5 : Int32) (l6 : Int32) : Option Int32 :=
  k25 l0 l1 l2 l3 l4 l5 ((l6 + 1))
theorem tX10_livesAt_108 {G : pz_G} {C : pz_C} {f : pz_H} {k25 : Nat → Int32 → Int32 → Int32 → Int32 → Int32 → Int32 → Option Int32} {l0 : Nat} {l1 : Int32} {l2 : Int32} {l3 : Int32} {l4 : Int32} {l5 : Int32} {l6 : Int32} {r : Int32} (hC : pz_OK G C cX10_livesAt 9 RX10) (hK : pz_K C (some .int) 0 0 0 0) (hk25 : ∀ (a0 : Nat) (a1 : Int32) (a2 : Int32) (a3 : Int32) (a4 : Int32) (a5 : Int32) (a6 : Int32), k25 a0 a1 a2 a3 a4 a5 a6 = some r → pz_W G C 9 25 [(0, .ref a0), (1, .int a1), (2, .int a2), (3, .int a3), (4, .int a4), (5, .int a5), (6, .int a6)] [] f 0 0 (pz_Q G C (some (.int r)) f 0 0)) (hf : fX10_livesAt_108 k25 f l0 l1 l2 l3 l4 l5 l6 = some r) : pz_W G C 9 108 [(0, .ref l0), (1, .int l1), (2, .int l2), (3, .int l3), (4, .int l4), (5, .int l5), (6, .int l6)] [] f 0 0 (pz_Q G C (some (.int r)) f 0 0) := by
  unfold fX10_livesAt_108 at hf
  refine pz_iinc (v := (l6 + 1)) hC dX10_livesAt_108 6 rfl rfl (by decide) rfl ?_
  refine pz_goto hC dX10_livesAt_111 ?_
  refine pz_sub [1, 2, 3, 4, 5, 6, 0] rfl ?_
  exact hk25 _ _ _ _ _ _ _ hf
def fX10_livesAt_87 (k25 : Nat → Int32 → Int32 → Int32 → Int32 → Int32 → Int32 → Option Int32) (f : pz_H) (l0 : Nat) (l1 : Int32) (l2 : Int32) (l3 : Int32) (l4 : Int32) (l5 : Int32) (l6 : Int32) (l7 : Int32) (l8 : Int32) : Option Int32 :=
  if l7 ≤ l1 then fX10_livesAt_108 k25 f l0 l1 l2 l3 l4 l5 l6 else
  if l4 ≤ l7 then fX10_livesAt_108 k25 f l0 l1 l2 l3 l4 l5 l6 else
  fX10_livesAt_108 k25 f l0 l1 l2 l3 l7 l8 l6
theorem tX10_livesAt_87 {G : pz_G} {C : pz_C} {f : pz_H} {k25 : Nat → Int32 → Int32 → Int32 → Int32 → Int32 → Int32 → Option Int32} {l0 : Nat} {l1 : Int32} {l2 : Int32} {l3 : Int32} {l4 : Int32} {l5 : Int32} {l6 : Int32} {l7 : Int32} {l8 : Int32} {r : Int32} (hC : pz_OK G C cX10_livesAt 9 RX10) (hK : pz_K C (some .int) 0 0 0 0) (hk25 : ∀ (a0 : Nat) (a1 : Int32) (a2 : Int32) (a3 : Int32) (a4 : Int32) (a5 : Int32) (a6 : Int32), k25 a0 a1 a2 a3 a4 a5 a6 = some r → pz_W G C 9 25 [(0, .ref a0), (1, .int a1), (2, .int a2), (3, .int a3), (4, .int a4), (5, .int a5), (6, .int a6)] [] f 0 0 (pz_Q G C (some (.int r)) f 0 0)) (hf : fX10_livesAt_87 k25 f l0 l1 l2 l3 l4 l5 l6 l7 l8 = some r) : pz_W G C 9 87 [(0, .ref l0), (1, .int l1), (2, .int l2), (3, .int l3), (4, .int l4), (5, .int l5), (6, .int l6), (7, .int l7), (8, .int l8)] [] f 0 0 (pz_Q G C (some (.int r)) f 0 0) := by
  unfold fX10_livesAt_87 at hf
  refine pz_iload hC dX10_livesAt_87 7 rfl ?_
  refine pz_iload_n hC dX10_livesAt_89 1 rfl ?_
  refine pz_icmp_le hC dX10_livesAt_90 hf (fun _ hf => ?_) (fun _ hf => ?_)
  · refine pz_sub [0, 1, 2, 3, 4, 5, 6] rfl ?_
    exact tX10_livesAt_108 hC hK hk25 hf
  · refine pz_iload hC dX10_livesAt_93 7 rfl ?_
    refine pz_iload hC dX10_livesAt_95 4 rfl ?_
    refine pz_icmp_ge hC dX10_livesAt_97 hf (fun _ hf => ?_) (fun _ hf => ?_)
    · refine pz_sub [0, 1, 2, 3, 4, 5, 6] rfl ?_
      exact tX10_livesAt_108 hC hK hk25 hf
    · refine pz_iload hC dX10_livesAt_100 7 rfl ?_
      refine pz_istore hC dX10_livesAt_102 (by decide) rfl ?_
      refine pz_iload hC dX10_livesAt_104 8 rfl ?_
      refine pz_istore hC dX10_livesAt_106 (by decide) rfl ?_
      refine pz_sub [2, 3, 4, 5, 1, 0, 6] rfl ?_
      exact tX10_livesAt_108 hC hK hk25 hf
def fX10_livesAt_25b (k25 : Nat → Int32 → Int32 → Int32 → Int32 → Int32 → Int32 → Option Int32) (f : pz_H) (l0 : Nat) (l1 : Int32) (l2 : Int32) (l3 : Int32) (l4 : Int32) (l5 : Int32) (l6 : Int32) : Option Int32 :=
  (pz_gR f l0 9 1).bind fun v1 =>
  (pz_aI f v1 0 ((5 : Int32))).bind fun v2 =>
  if v2 ≤ l6 then if ((l4 - l2)).toInt64 = 0 then none else
  some (((((l3.toInt64 * ((l4 - l1)).toInt64) + (l5.toInt64 * ((l1 - l2)).toInt64)) / ((l4 - l2)).toInt64)).toInt32) else
  (pz_gR f l0 9 1).bind fun v3 =>
  (pz_aI f v3 0 (((67 : Int32) + ((2 : Int32) * l6)))).bind fun v4 =>
  (pz_gR f l0 9 1).bind fun v5 =>
  (pz_aI f v5 0 ((((67 : Int32) + ((2 : Int32) * l6)) + (1 : Int32)))).bind fun v6 =>
  if l1 < ((12 : Int32) * v4) then fX10_livesAt_87 k25 f l0 l1 l2 l3 l4 l5 l6 (((12 : Int32) * v4)) v6 else
  if ((12 : Int32) * v4) < l2 then fX10_livesAt_87 k25 f l0 l1 l2 l3 l4 l5 l6 (((12 : Int32) * v4)) v6 else
  fX10_livesAt_87 k25 f l0 l1 (((12 : Int32) * v4)) v6 l4 l5 l6 (((12 : Int32) * v4)) v6
theorem tX10_livesAt_25b {G : pz_G} {C : pz_C} {f : pz_H} {k25 : Nat → Int32 → Int32 → Int32 → Int32 → Int32 → Int32 → Option Int32} {l0 : Nat} {l1 : Int32} {l2 : Int32} {l3 : Int32} {l4 : Int32} {l5 : Int32} {l6 : Int32} {r : Int32} (hC : pz_OK G C cX10_livesAt 9 RX10) (hK : pz_K C (some .int) 0 0 0 0) (hk25 : ∀ (a0 : Nat) (a1 : Int32) (a2 : Int32) (a3 : Int32) (a4 : Int32) (a5 : Int32) (a6 : Int32), k25 a0 a1 a2 a3 a4 a5 a6 = some r → pz_W G C 9 25 [(0, .ref a0), (1, .int a1), (2, .int a2), (3, .int a3), (4, .int a4), (5, .int a5), (6, .int a6)] [] f 0 0 (pz_Q G C (some (.int r)) f 0 0)) (hf : fX10_livesAt_25b k25 f l0 l1 l2 l3 l4 l5 l6 = some r) : pz_W G C 9 25 [(0, .ref l0), (1, .int l1), (2, .int l2), (3, .int l3), (4, .int l4), (5, .int l5), (6, .int l6)] [] f 0 0 (pz_Q G C (some (.int r)) f 0 0) := by
  unfold fX10_livesAt_25b at hf
  refine pz_iload hC dX10_livesAt_25 6 rfl ?_
  refine pz_aload_n hC dX10_livesAt_27 0 rfl ?_
  refine pz_getR hC dX10_livesAt_28 fa_X10_7 hf (fun v1 hf => ?_)
  refine pz_iconst (v := (5 : Int32)) hC dX10_livesAt_31 (by decide) ?_
  refine pz_iald hC dX10_livesAt_32 hf (fun v2 hf => ?_)
  refine pz_icmp_ge hC dX10_livesAt_33 hf (fun _ hf => ?_) (fun _ hf => ?_)
  · refine pz_iload_n hC dX10_livesAt_114 3 rfl ?_
    refine pz_i2l hC dX10_livesAt_115 ?_
    refine pz_iload hC dX10_livesAt_116 4 rfl ?_
    refine pz_iload_n hC dX10_livesAt_118 1 rfl ?_
    refine pz_isub hC dX10_livesAt_119 ?_
    refine pz_i2l hC dX10_livesAt_120 ?_
    refine pz_lmul hC dX10_livesAt_121 ?_
    refine pz_iload hC dX10_livesAt_122 5 rfl ?_
    refine pz_i2l hC dX10_livesAt_124 ?_
    refine pz_iload_n hC dX10_livesAt_125 1 rfl ?_
    refine pz_iload_n hC dX10_livesAt_126 2 rfl ?_
    refine pz_isub hC dX10_livesAt_127 ?_
    refine pz_i2l hC dX10_livesAt_128 ?_
    refine pz_lmul hC dX10_livesAt_129 ?_
    refine pz_ladd hC dX10_livesAt_130 ?_
    refine pz_iload hC dX10_livesAt_131 4 rfl ?_
    refine pz_iload_n hC dX10_livesAt_133 2 rfl ?_
    refine pz_isub hC dX10_livesAt_134 ?_
    refine pz_i2l hC dX10_livesAt_135 ?_
    refine pz_ldiv hC dX10_livesAt_136 hf (fun hf => ?_)
    refine pz_l2i hC dX10_livesAt_137 ?_
    exact pz_iret hC hK dX10_livesAt_138 hf
  · refine pz_bipush (v := (12 : Int32)) hC dX10_livesAt_36 (by decide) ?_
    refine pz_aload_n hC dX10_livesAt_38 0 rfl ?_
    refine pz_getR hC dX10_livesAt_39 fa_X10_7 hf (fun v3 hf => ?_)
    refine pz_bipush (v := (67 : Int32)) hC dX10_livesAt_42 (by decide) ?_
    refine pz_iconst (v := (2 : Int32)) hC dX10_livesAt_44 (by decide) ?_
    refine pz_iload hC dX10_livesAt_45 6 rfl ?_
    refine pz_imul hC dX10_livesAt_47 ?_
    refine pz_iadd hC dX10_livesAt_48 ?_
    refine pz_iald hC dX10_livesAt_49 hf (fun v4 hf => ?_)
    refine pz_imul hC dX10_livesAt_50 ?_
    refine pz_istore hC dX10_livesAt_51 (by decide) rfl ?_
    refine pz_aload_n hC dX10_livesAt_53 1 rfl ?_
    refine pz_getR hC dX10_livesAt_54 fa_X10_7 hf (fun v5 hf => ?_)
    refine pz_bipush (v := (67 : Int32)) hC dX10_livesAt_57 (by decide) ?_
    refine pz_iconst (v := (2 : Int32)) hC dX10_livesAt_59 (by decide) ?_
    refine pz_iload hC dX10_livesAt_60 7 rfl ?_
    refine pz_imul hC dX10_livesAt_62 ?_
    refine pz_iadd hC dX10_livesAt_63 ?_
    refine pz_iconst (v := (1 : Int32)) hC dX10_livesAt_64 (by decide) ?_
    refine pz_iadd hC dX10_livesAt_65 ?_
    refine pz_iald hC dX10_livesAt_66 hf (fun v6 hf => ?_)
    refine pz_istore hC dX10_livesAt_67 (by decide) rfl ?_
    refine pz_iload hC dX10_livesAt_69 1 rfl ?_
    refine pz_iload_n hC dX10_livesAt_71 3 rfl ?_
    refine pz_icmp_gt hC dX10_livesAt_72 hf (fun _ hf => ?_) (fun _ hf => ?_)
    · refine pz_sub [2, 3, 4, 5, 6, 7, 8, 1, 0] rfl ?_
      exact tX10_livesAt_87 hC hK hk25 hf
    · refine pz_iload hC dX10_livesAt_75 1 rfl ?_
      refine pz_iload_n hC dX10_livesAt_77 4 rfl ?_
      refine pz_icmp_lt hC dX10_livesAt_78 hf (fun _ hf => ?_) (fun _ hf => ?_)
      · refine pz_sub [2, 3, 4, 5, 6, 7, 8, 1, 0] rfl ?_
        exact tX10_livesAt_87 hC hK hk25 hf
      · refine pz_iload hC dX10_livesAt_81 1 rfl ?_
        refine pz_istore_n hC dX10_livesAt_83 (by decide) rfl ?_
        refine pz_iload hC dX10_livesAt_84 1 rfl ?_
        refine pz_istore_n hC dX10_livesAt_86 (by decide) rfl ?_
        refine pz_sub [4, 5, 1, 0, 6, 7, 8, 3, 2] rfl ?_
        exact tX10_livesAt_87 hC hK hk25 hf
def fX10_livesAt_25 (f : pz_H) : Nat → Nat → Int32 → Int32 → Int32 → Int32 → Int32 → Int32 → Option Int32
  | 0, _, _, _, _, _, _, _ => none
  | n + 1, l0, l1, l2, l3, l4, l5, l6 => fX10_livesAt_25b (fX10_livesAt_25 f n) f l0 l1 l2 l3 l4 l5 l6
theorem tX10_livesAt_25 {G : pz_G} {C : pz_C} {f : pz_H} {r : Int32} (hC : pz_OK G C cX10_livesAt 9 RX10) (hK : pz_K C (some .int) 0 0 0 0) : ∀ (N : Nat) (l0 : Nat) (l1 : Int32) (l2 : Int32) (l3 : Int32) (l4 : Int32) (l5 : Int32) (l6 : Int32), fX10_livesAt_25 f N l0 l1 l2 l3 l4 l5 l6 = some r → pz_W G C 9 25 [(0, .ref l0), (1, .int l1), (2, .int l2), (3, .int l3), (4, .int l4), (5, .int l5), (6, .int l6)] [] f 0 0 (pz_Q G C (some (.int r)) f 0 0) := by
  intro N
  induction N with
  | zero => intro l0 l1 l2 l3 l4 l5 l6 hf; cases hf
  | succ N ih => intro l0 l1 l2 l3 l4 l5 l6 hf; exact tX10_livesAt_25b hC hK (fun l0 l1 l2 l3 l4 l5 l6 hf => ih l0 l1 l2 l3 l4 l5 l6 hf) hf
def fnX10_livesAt (f : pz_H) (a0 : Nat) (p1 : Int32) : Option Int32 :=
  (pz_is f a0 9).bind fun _ =>
  if p1 < (1440 : Int32) then fX10_livesAt_25 f pz_F a0 p1 ((0 : Int32)) ((100000 : Int32)) ((1440 : Int32)) ((0 : Int32)) ((0 : Int32)) else
  some ((0 : Int32))
theorem mX10_livesAt {l : Launch} {G : pz_G} {f : pz_H} {a0 : Nat} {p1 : Int32} {r : Int32} (hf : fnX10_livesAt f a0 p1 = some r) : pz_Met l G yX10_livesAt cX10_livesAt 9 (some .int) 0 0 0 0 [.ref a0, .int p1] f (some (.int r)) f ∧ pz_is f a0 9 = some () := by
  unfold fnX10_livesAt at hf
  obtain ⟨_, h0, hf⟩ := pz_bd hf
  refine ⟨pz_enter (by decide +kernel) (Nat.le_of_ble_eq_true rfl) (fun C hl hC hK hnm => ?_), h0⟩
  subst hl
  refine pz_sub (lv' := [(0, .ref a0), (1, .int p1)]) [0, 1] rfl ?_
  refine pz_iload_n hC dX10_livesAt_0 1 rfl ?_
  refine pz_sipush (v := (1440 : Int32)) hC dX10_livesAt_1 (by decide) ?_
  refine pz_icmp_lt hC dX10_livesAt_4 hf (fun _ hf => ?_) (fun _ hf => ?_)
  · refine pz_iconst (v := (0 : Int32)) hC dX10_livesAt_9 (by decide) ?_
    refine pz_istore_n hC dX10_livesAt_10 (by decide) rfl ?_
    refine pz_ldc hC dX10_livesAt_11 ck_X10_102 ?_
    refine pz_istore_n hC dX10_livesAt_13 (by decide) rfl ?_
    refine pz_sipush (v := (1440 : Int32)) hC dX10_livesAt_14 (by decide) ?_
    refine pz_istore hC dX10_livesAt_17 (by decide) rfl ?_
    refine pz_iconst (v := (0 : Int32)) hC dX10_livesAt_19 (by decide) ?_
    refine pz_istore hC dX10_livesAt_20 (by decide) rfl ?_
    refine pz_iconst (v := (0 : Int32)) hC dX10_livesAt_22 (by decide) ?_
    refine pz_istore hC dX10_livesAt_23 (by decide) rfl ?_
    refine pz_sub [5, 6, 4, 3, 2, 1, 0] rfl ?_
    exact tX10_livesAt_25 hC hK _ _ _ _ _ _ _ _ hf
  · refine pz_iconst (v := (0 : Int32)) hC dX10_livesAt_7 (by decide) ?_
    exact pz_iret hC hK dX10_livesAt_8 hf
def fX10_bornOf_21 (f : pz_H) (s0 : Int32) : Option Int32 :=
  some s0
theorem tX10_bornOf_21 {G : pz_G} {C : pz_C} {f : pz_H} {s0 : Int32} {r : Int32} (hC : pz_OK G C cX10_bornOf 2 RX10) (hK : pz_K C (some .int) 1 22 0 0) (hf : fX10_bornOf_21 f s0 = some r) : pz_W G C 2 21 [] [.int s0] f 0 0 (pz_Q G C (some (.int r)) f 0 0) := by
  unfold fX10_bornOf_21 at hf
  exact pz_iret hC hK dX10_bornOf_21 hf
def fnX10_bornOf (f : pz_H) (a0 : Nat) (p1 : Int32) : Option Int32 :=
  (pz_is f a0 9).bind fun _ =>
  if p1 = (10 : Int32) then (pz_gR f a0 9 1).bind fun v2 =>
  (pz_aI f v2 0 ((0 : Int32))).bind fun v3 =>
  fX10_bornOf_21 f v3 else
  (fnX10_its f a0 p1 ((0 : Int32))).bind fun x1 =>
  fX10_bornOf_21 f x1
theorem mX10_bornOf {l : Launch} {G : pz_G} {f : pz_H} {a0 : Nat} {p1 : Int32} {r : Int32} (hf : fnX10_bornOf f a0 p1 = some r) : pz_Met l G yX10_bornOf cX10_bornOf 2 (some .int) 1 22 0 0 [.ref a0, .int p1] f (some (.int r)) f ∧ pz_is f a0 9 = some () := by
  unfold fnX10_bornOf at hf
  obtain ⟨_, h0, hf⟩ := pz_bd hf
  refine ⟨pz_enter (by decide +kernel) (Nat.le_of_ble_eq_true rfl) (fun C hl hC hK hnm => ?_), h0⟩
  subst hl
  refine pz_sub (lv' := [(0, .ref a0), (1, .int p1)]) [0, 1] rfl ?_
  refine pz_iload_n hC dX10_bornOf_0 1 rfl ?_
  refine pz_bipush (v := (10 : Int32)) hC dX10_bornOf_1 (by decide) ?_
  refine pz_icmp_ne hC dX10_bornOf_3 hf (fun _ hf => ?_) (fun _ hf => ?_)
  · refine pz_aload_n hC dX10_bornOf_15 0 rfl ?_
    refine pz_iload_n hC dX10_bornOf_16 1 rfl ?_
    refine pz_iconst (v := (0 : Int32)) hC dX10_bornOf_17 (by decide) ?_
    refine pz_Vi (As := [.int p1, .int (0 : Int32)]) hC hK dX10_bornOf_18 py_X10_its pv_X10_its lk_X10_56 hf (fun _ h => mX10_its h) rfl rfl (Nat.le_of_ble_eq_true rfl) ⟨by decide, by decide⟩ ⟨Nat.le_of_ble_eq_true rfl, Nat.le_of_ble_eq_true rfl⟩ (fun x1 hf => ?_)
    refine pz_sub [] rfl ?_
    exact tX10_bornOf_21 hC hK hf
  · refine pz_aload_n hC dX10_bornOf_6 0 rfl ?_
    refine pz_getR hC dX10_bornOf_7 fa_X10_7 hf (fun v2 hf => ?_)
    refine pz_iconst (v := (0 : Int32)) hC dX10_bornOf_10 (by decide) ?_
    refine pz_iald hC dX10_bornOf_11 hf (fun v3 hf => ?_)
    refine pz_goto hC dX10_bornOf_12 ?_
    refine pz_sub [] rfl ?_
    exact tX10_bornOf_21 hC hK hf
def fX10_laysOdds_57 (k16 : pz_H → Nat → Nat → Int32 → Int32 → Int32 → Option pz_H) (f : pz_H) (l0 : Nat) (l1 : Nat) (l2 : Int32) (l4 : Int32) (l5 : Int32) (s0 : Int64) (s1 : Int32) (s2 : Nat) : Option pz_H :=
  (pz_tL f s2 1 s1 s0).bind fun f1 =>
  k16 f1 l0 l1 l2 l4 ((l5 + 1))
theorem tX10_laysOdds_57 {G : pz_G} {C : pz_C} {f : pz_H} {k16 : pz_H → Nat → Nat → Int32 → Int32 → Int32 → Option pz_H} {l0 : Nat} {l1 : Nat} {l2 : Int32} {l4 : Int32} {l5 : Int32} {s0 : Int64} {s1 : Int32} {s2 : Nat} {r : pz_H} (hC : pz_OK G C cX10_laysOdds 6 RX10) (hK : pz_K C none 2 43 0 0) (hk16 : ∀ (g : pz_H) (a0 : Nat) (a1 : Nat) (a2 : Int32) (a4 : Int32) (a5 : Int32), k16 g a0 a1 a2 a4 a5 = some r → pz_W G C 6 16 [(0, .ref a0), (1, .ref a1), (2, .int a2), (4, .int a4), (5, .int a5)] [] g 0 0 (pz_Q G C none r 0 0)) (hf : fX10_laysOdds_57 k16 f l0 l1 l2 l4 l5 s0 s1 s2 = some r) : pz_W G C 6 57 [(0, .ref l0), (1, .ref l1), (2, .int l2), (4, .int l4), (5, .int l5)] [.long s0, .int s1, .ref s2] f 0 0 (pz_Q G C none r 0 0) := by
  unfold fX10_laysOdds_57 at hf
  refine pz_last hC dX10_laysOdds_57 hf (fun f1 hf => ?_)
  refine pz_iinc (v := (l5 + 1)) hC dX10_laysOdds_58 4 rfl rfl (by decide) rfl ?_
  refine pz_goto hC dX10_laysOdds_61 ?_
  refine pz_sub [1, 2, 3, 4, 0] rfl ?_
  exact hk16 _ _ _ _ _ _ hf
def fX10_laysOdds_16b (k16 : pz_H → Nat → Nat → Int32 → Int32 → Int32 → Option pz_H) (f : pz_H) (l0 : Nat) (l1 : Nat) (l2 : Int32) (l4 : Int32) (l5 : Int32) : Option pz_H :=
  if (1800 : Int32) ≤ l5 then some f else
  if l4 = 0 then fX10_laysOdds_57 k16 f l0 l1 l2 l4 l5 ((0 : Int64)) l5 l1 else
  (fnX10_bornOf f l0 l2).bind fun x1 =>
  (fnX10_livesAt f l0 ((l5 - x1))).bind fun x2 =>
  if l4.toInt64 = 0 then none else
  fX10_laysOdds_57 k16 f l0 l1 l2 l4 l5 ((((1000000000 : Int64) * x2.toInt64) / l4.toInt64)) l5 l1
theorem tX10_laysOdds_16b {G : pz_G} {C : pz_C} {f : pz_H} {k16 : pz_H → Nat → Nat → Int32 → Int32 → Int32 → Option pz_H} {l0 : Nat} {l1 : Nat} {l2 : Int32} {l4 : Int32} {l5 : Int32} {r : pz_H} (hC : pz_OK G C cX10_laysOdds 6 RX10) (hK : pz_K C none 2 43 0 0) (hk16 : ∀ (g : pz_H) (a0 : Nat) (a1 : Nat) (a2 : Int32) (a4 : Int32) (a5 : Int32), k16 g a0 a1 a2 a4 a5 = some r → pz_W G C 6 16 [(0, .ref a0), (1, .ref a1), (2, .int a2), (4, .int a4), (5, .int a5)] [] g 0 0 (pz_Q G C none r 0 0)) (hf : fX10_laysOdds_16b k16 f l0 l1 l2 l4 l5 = some r) : pz_W G C 6 16 [(0, .ref l0), (1, .ref l1), (2, .int l2), (4, .int l4), (5, .int l5)] [] f 0 0 (pz_Q G C none r 0 0) := by
  unfold fX10_laysOdds_16b at hf
  refine pz_iload hC dX10_laysOdds_16 4 rfl ?_
  refine pz_sipush (v := (1800 : Int32)) hC dX10_laysOdds_18 (by decide) ?_
  refine pz_icmp_ge hC dX10_laysOdds_21 hf (fun _ hf => ?_) (fun _ hf => ?_)
  · exact pz_vret hC hK dX10_laysOdds_64 hf
  · refine pz_aload_n hC dX10_laysOdds_24 1 rfl ?_
    refine pz_iload hC dX10_laysOdds_25 4 rfl ?_
    refine pz_iload hC dX10_laysOdds_27 3 rfl ?_
    refine pz_if_ne hC dX10_laysOdds_29 hf (fun _ hf => ?_) (fun _ hf => ?_)
    · refine pz_ldc2 hC dX10_laysOdds_36 ck_X10_87 ?_
      refine pz_aload_n hC dX10_laysOdds_39 0 rfl ?_
      refine pz_iload hC dX10_laysOdds_40 4 rfl ?_
      refine pz_aload_n hC dX10_laysOdds_42 0 rfl ?_
      refine pz_iload_n hC dX10_laysOdds_43 2 rfl ?_
      refine pz_Vi (As := [.int l2]) hC hK dX10_laysOdds_44 py_X10_bornOf pv_X10_bornOf lk_X10_103 hf (fun _ h => mX10_bornOf h) rfl rfl (Nat.le_of_ble_eq_true rfl) ⟨by decide, by decide⟩ ⟨Nat.le_of_ble_eq_true rfl, Nat.le_of_ble_eq_true rfl⟩ (fun x1 hf => ?_)
      refine pz_isub hC dX10_laysOdds_47 ?_
      refine pz_Vi (As := [.int (l5 - x1)]) hC hK dX10_laysOdds_48 py_X10_livesAt pv_X10_livesAt lk_X10_106 hf (fun _ h => mX10_livesAt h) rfl rfl (Nat.le_of_ble_eq_true rfl) ⟨by decide, by decide⟩ ⟨Nat.le_of_ble_eq_true rfl, Nat.le_of_ble_eq_true rfl⟩ (fun x2 hf => ?_)
      refine pz_i2l hC dX10_laysOdds_51 ?_
      refine pz_lmul hC dX10_laysOdds_52 ?_
      refine pz_iload hC dX10_laysOdds_53 3 rfl ?_
      refine pz_i2l hC dX10_laysOdds_55 ?_
      refine pz_ldiv hC dX10_laysOdds_56 hf (fun hf => ?_)
      exact tX10_laysOdds_57 hC hK hk16 hf
    · refine pz_lconst (v := 0) hC dX10_laysOdds_32 (by decide) ?_
      refine pz_goto hC dX10_laysOdds_33 ?_
      exact tX10_laysOdds_57 hC hK hk16 hf
def fX10_laysOdds_16 : Nat → pz_H → Nat → Nat → Int32 → Int32 → Int32 → Option pz_H
  | 0, _, _, _, _, _, _ => none
  | n + 1, f, l0, l1, l2, l4, l5 => fX10_laysOdds_16b (fX10_laysOdds_16 n) f l0 l1 l2 l4 l5
theorem tX10_laysOdds_16 {G : pz_G} {C : pz_C} {r : pz_H} (hC : pz_OK G C cX10_laysOdds 6 RX10) (hK : pz_K C none 2 43 0 0) : ∀ (N : Nat) (f : pz_H) (l0 : Nat) (l1 : Nat) (l2 : Int32) (l4 : Int32) (l5 : Int32), fX10_laysOdds_16 N f l0 l1 l2 l4 l5 = some r → pz_W G C 6 16 [(0, .ref l0), (1, .ref l1), (2, .int l2), (4, .int l4), (5, .int l5)] [] f 0 0 (pz_Q G C none r 0 0) := by
  intro N
  induction N with
  | zero => intro f l0 l1 l2 l4 l5 hf; cases hf
  | succ N ih => intro f l0 l1 l2 l4 l5 hf; exact tX10_laysOdds_16b hC hK (fun f l0 l1 l2 l4 l5 hf => ih f l0 l1 l2 l4 l5 hf) hf
def fnX10_laysOdds (f : pz_H) (a0 : Nat) (p1 : Nat) (p2 : Int32) (p3 : Int32) : Option pz_H :=
  (pz_is f a0 9).bind fun _ =>
  (fnX10_bornOf f a0 p2).bind fun x1 =>
  (fnX10_livesAt f a0 ((p3 - x1))).bind fun x2 =>
  fX10_laysOdds_16 pz_F f a0 p1 p2 x2 p3
theorem mX10_laysOdds {l : Launch} {G : pz_G} {f : pz_H} {a0 : Nat} {p1 : Nat} {p2 : Int32} {p3 : Int32} {r : pz_H} (hf : fnX10_laysOdds f a0 p1 p2 p3 = some r) : pz_Met l G yX10_laysOdds cX10_laysOdds 6 none 2 43 0 0 [.ref a0, .ref p1, .int p2, .int p3] f none r ∧ pz_is f a0 9 = some () := by
  unfold fnX10_laysOdds at hf
  obtain ⟨_, h0, hf⟩ := pz_bd hf
  refine ⟨pz_enter (by decide +kernel) (Nat.le_of_ble_eq_true rfl) (fun C hl hC hK hnm => ?_), h0⟩
  subst hl
  refine pz_sub (lv' := [(0, .ref a0), (1, .ref p1), (2, .int p2), (3, .int p3)]) [0, 1, 2, 3] rfl ?_
  refine pz_aload_n hC dX10_laysOdds_0 0 rfl ?_
  refine pz_iload_n hC dX10_laysOdds_1 3 rfl ?_
  refine pz_aload_n hC dX10_laysOdds_2 0 rfl ?_
  refine pz_iload_n hC dX10_laysOdds_3 2 rfl ?_
  refine pz_Vi (As := [.int p2]) hC hK dX10_laysOdds_4 py_X10_bornOf pv_X10_bornOf lk_X10_103 hf (fun _ h => mX10_bornOf h) rfl rfl (Nat.le_of_ble_eq_true rfl) ⟨by decide, by decide⟩ ⟨Nat.le_of_ble_eq_true rfl, Nat.le_of_ble_eq_true rfl⟩ (fun x1 hf => ?_)
  refine pz_isub hC dX10_laysOdds_7 ?_
  refine pz_Vi (As := [.int (p3 - x1)]) hC hK dX10_laysOdds_8 py_X10_livesAt pv_X10_livesAt lk_X10_106 hf (fun _ h => mX10_livesAt h) rfl rfl (Nat.le_of_ble_eq_true rfl) ⟨by decide, by decide⟩ ⟨Nat.le_of_ble_eq_true rfl, Nat.le_of_ble_eq_true rfl⟩ (fun x2 hf => ?_)
  refine pz_istore hC dX10_laysOdds_11 (by decide) rfl ?_
  refine pz_iload_n hC dX10_laysOdds_13 4 rfl ?_
  refine pz_istore hC dX10_laysOdds_14 (by decide) rfl ?_
  refine pz_sub [2, 3, 4, 1, 0] rfl ?_
  exact tX10_laysOdds_16 hC hK _ _ _ _ _ _ _ hf
def fX10_annuityBy_10b (k10 : pz_H → Nat → Nat → Int32 → Int64 → Int32 → Option (Int64 × pz_H)) (f : pz_H) (l0 : Nat) (l1 : Nat) (l2 : Int32) (l4 : Int64) (l6 : Int32) : Option (Int64 × pz_H) :=
  if (1800 : Int32) ≤ l6 then some (l4, f) else
  (pz_gR f l0 9 7).bind fun v1 =>
  (pz_aL f v1 1 ((l6 - l2))).bind fun v2 =>
  (pz_aL f l1 1 l6).bind fun v3 =>
  k10 f l0 l1 l2 ((l4 + ((v2 * v3) / (1000000000 : Int64)))) ((l6 + 1))
theorem tX10_annuityBy_10b {G : pz_G} {C : pz_C} {f : pz_H} {k10 : pz_H → Nat → Nat → Int32 → Int64 → Int32 → Option (Int64 × pz_H)} {l0 : Nat} {l1 : Nat} {l2 : Int32} {l4 : Int64} {l6 : Int32} {r : (Int64 × pz_H)} (hC : pz_OK G C cX10_annuityBy 7 RX10) (hK : pz_K C (some .long) 6 135 0 0) (hk10 : ∀ (g : pz_H) (a0 : Nat) (a1 : Nat) (a2 : Int32) (a4 : Int64) (a6 : Int32), k10 g a0 a1 a2 a4 a6 = some r → pz_W G C 7 10 [(0, .ref a0), (1, .ref a1), (2, .int a2), (4, .long a4), (6, .int a6)] [] g 0 0 (pz_Q G C (some (.long r.1)) r.2 0 0)) (hf : fX10_annuityBy_10b k10 f l0 l1 l2 l4 l6 = some r) : pz_W G C 7 10 [(0, .ref l0), (1, .ref l1), (2, .int l2), (4, .long l4), (6, .int l6)] [] f 0 0 (pz_Q G C (some (.long r.1)) r.2 0 0) := by
  unfold fX10_annuityBy_10b at hf
  refine pz_iload hC dX10_annuityBy_10 4 rfl ?_
  refine pz_sipush (v := (1800 : Int32)) hC dX10_annuityBy_12 (by decide) ?_
  refine pz_icmp_ge hC dX10_annuityBy_15 hf (fun _ hf => ?_) (fun _ hf => ?_)
  · refine pz_lload hC dX10_annuityBy_47 3 rfl ?_
    exact pz_lretw hC hK dX10_annuityBy_49 hf
  · refine pz_lload hC dX10_annuityBy_18 3 rfl ?_
    refine pz_aload_n hC dX10_annuityBy_20 0 rfl ?_
    refine pz_getR hC dX10_annuityBy_21 fa_X10_23 hf (fun v1 hf => ?_)
    refine pz_iload hC dX10_annuityBy_24 4 rfl ?_
    refine pz_iload_n hC dX10_annuityBy_26 2 rfl ?_
    refine pz_isub hC dX10_annuityBy_27 ?_
    refine pz_lald hC dX10_annuityBy_28 hf (fun v2 hf => ?_)
    refine pz_aload_n hC dX10_annuityBy_29 1 rfl ?_
    refine pz_iload hC dX10_annuityBy_30 4 rfl ?_
    refine pz_lald hC dX10_annuityBy_32 hf (fun v3 hf => ?_)
    refine pz_lmul hC dX10_annuityBy_33 ?_
    refine pz_ldc2 hC dX10_annuityBy_34 ck_X10_87 ?_
    refine pz_ldivc hC dX10_annuityBy_37 (by decide) ?_
    refine pz_ladd hC dX10_annuityBy_38 ?_
    refine pz_lstore hC dX10_annuityBy_39 (by decide) rfl ?_
    refine pz_iinc (v := (l6 + 1)) hC dX10_annuityBy_41 4 rfl rfl (by decide) rfl ?_
    refine pz_goto hC dX10_annuityBy_44 ?_
    refine pz_sub [2, 3, 4, 1, 0] rfl ?_
    exact hk10 _ _ _ _ _ _ hf
def fX10_annuityBy_10 : Nat → pz_H → Nat → Nat → Int32 → Int64 → Int32 → Option (Int64 × pz_H)
  | 0, _, _, _, _, _, _ => none
  | n + 1, f, l0, l1, l2, l4, l6 => fX10_annuityBy_10b (fX10_annuityBy_10 n) f l0 l1 l2 l4 l6
theorem tX10_annuityBy_10 {G : pz_G} {C : pz_C} {r : (Int64 × pz_H)} (hC : pz_OK G C cX10_annuityBy 7 RX10) (hK : pz_K C (some .long) 6 135 0 0) : ∀ (N : Nat) (f : pz_H) (l0 : Nat) (l1 : Nat) (l2 : Int32) (l4 : Int64) (l6 : Int32), fX10_annuityBy_10 N f l0 l1 l2 l4 l6 = some r → pz_W G C 7 10 [(0, .ref l0), (1, .ref l1), (2, .int l2), (4, .long l4), (6, .int l6)] [] f 0 0 (pz_Q G C (some (.long r.1)) r.2 0 0) := by
  intro N
  induction N with
  | zero => intro f l0 l1 l2 l4 l6 hf; cases hf
  | succ N ih => intro f l0 l1 l2 l4 l6 hf; exact tX10_annuityBy_10b hC hK (fun f l0 l1 l2 l4 l6 hf => ih f l0 l1 l2 l4 l6 hf) hf
def fnX10_annuityBy (f : pz_H) (a0 : Nat) (p1 : Nat) (p2 : Int32) (p3 : Int32) : Option (Int64 × pz_H) :=
  (pz_is f a0 9).bind fun _ =>
  (fnX10_laysWholes f a0).bind fun x1 =>
  fX10_annuityBy_10 pz_F x1 a0 p1 p2 ((0 : Int64)) p3
theorem mX10_annuityBy {l : Launch} {G : pz_G} {f : pz_H} {a0 : Nat} {p1 : Nat} {p2 : Int32} {p3 : Int32} {r : (Int64 × pz_H)} (hf : fnX10_annuityBy f a0 p1 p2 p3 = some r) : pz_Met l G yX10_annuityBy cX10_annuityBy 7 (some .long) 6 135 0 0 [.ref a0, .ref p1, .int p2, .int p3] f (some (.long r.1)) r.2 ∧ pz_is f a0 9 = some () := by
  unfold fnX10_annuityBy at hf
  obtain ⟨_, h0, hf⟩ := pz_bd hf
  refine ⟨pz_enter (by decide +kernel) (Nat.le_of_ble_eq_true rfl) (fun C hl hC hK hnm => ?_), h0⟩
  subst hl
  refine pz_sub (lv' := [(0, .ref a0), (1, .ref p1), (2, .int p2), (3, .int p3)]) [0, 1, 2, 3] rfl ?_
  refine pz_aload_n hC dX10_annuityBy_0 0 rfl ?_
  refine pz_Vv (As := []) hC hK dX10_annuityBy_1 py_X10_laysWholes pv_X10_laysWholes lk_X10_95 hf (fun _ h => mX10_laysWholes h) rfl rfl (Nat.le_of_ble_eq_true rfl) ⟨by decide, by decide⟩ ⟨Nat.le_of_ble_eq_true rfl, Nat.le_of_ble_eq_true rfl⟩ (fun x1 hf => ?_)
  refine pz_lconst (v := 0) hC dX10_annuityBy_4 (by decide) ?_
  refine pz_lstore hC dX10_annuityBy_5 (by decide) rfl ?_
  refine pz_iload_n hC dX10_annuityBy_7 4 rfl ?_
  refine pz_istore hC dX10_annuityBy_8 (by decide) rfl ?_
  refine pz_sub [2, 3, 4, 1, 0] rfl ?_
  exact tX10_annuityBy_10 hC hK _ _ _ _ _ _ _ hf
def fX10_areBorn_25 (f : pz_H) (s0 : Int32) : Option Int32 :=
  pz_b s0
theorem tX10_areBorn_25 {G : pz_G} {C : pz_C} {f : pz_H} {s0 : Int32} {r : Int32} (hC : pz_OK G C cX10_areBorn 3 RX10) (hK : pz_K C (some .boolean) 1 22 0 0) (hf : fX10_areBorn_25 f s0 = some r) : pz_W G C 3 25 [] [.int s0] f 0 0 (pz_Q G C (some (.int r)) f 0 0) := by
  unfold fX10_areBorn_25 at hf
  exact pz_zret hC hK dX10_areBorn_25 hf
def fX10_areBorn_24 (f : pz_H) : Option Int32 :=
  fX10_areBorn_25 f ((0 : Int32))
theorem tX10_areBorn_24 {G : pz_G} {C : pz_C} {f : pz_H} {r : Int32} (hC : pz_OK G C cX10_areBorn 3 RX10) (hK : pz_K C (some .boolean) 1 22 0 0) (hf : fX10_areBorn_24 f = some r) : pz_W G C 3 24 [] [] f 0 0 (pz_Q G C (some (.int r)) f 0 0) := by
  unfold fX10_areBorn_24 at hf
  refine pz_iconst (v := (0 : Int32)) hC dX10_areBorn_24 (by decide) ?_
  exact tX10_areBorn_25 hC hK hf
def fnX10_areBorn (f : pz_H) (a0 : Nat) (p1 : Int32) (p2 : Int32) : Option Int32 :=
  (pz_is f a0 9).bind fun _ =>
  (pz_gR f a0 9 1).bind fun v1 =>
  (pz_aI f v1 0 ((0 : Int32))).bind fun v2 =>
  if p2 < v2 then fX10_areBorn_24 f else
  (fnX10_its f a0 p1 ((0 : Int32))).bind fun x3 =>
  if p2 < x3 then fX10_areBorn_24 f else
  fX10_areBorn_25 f ((1 : Int32))
theorem mX10_areBorn {l : Launch} {G : pz_G} {f : pz_H} {a0 : Nat} {p1 : Int32} {p2 : Int32} {r : Int32} (hf : fnX10_areBorn f a0 p1 p2 = some r) : pz_Met l G yX10_areBorn cX10_areBorn 3 (some .boolean) 1 22 0 0 [.ref a0, .int p1, .int p2] f (some (.int r)) f ∧ pz_is f a0 9 = some () := by
  unfold fnX10_areBorn at hf
  obtain ⟨_, h0, hf⟩ := pz_bd hf
  refine ⟨pz_enter (by decide +kernel) (Nat.le_of_ble_eq_true rfl) (fun C hl hC hK hnm => ?_), h0⟩
  subst hl
  refine pz_sub (lv' := [(0, .ref a0), (1, .int p1), (2, .int p2)]) [0, 1, 2] rfl ?_
  refine pz_aload_n hC dX10_areBorn_0 0 rfl ?_
  refine pz_getR hC dX10_areBorn_1 fa_X10_7 hf (fun v1 hf => ?_)
  refine pz_iconst (v := (0 : Int32)) hC dX10_areBorn_4 (by decide) ?_
  refine pz_iald hC dX10_areBorn_5 hf (fun v2 hf => ?_)
  refine pz_iload_n hC dX10_areBorn_6 2 rfl ?_
  refine pz_icmp_gt hC dX10_areBorn_7 hf (fun _ hf => ?_) (fun _ hf => ?_)
  · refine pz_sub [] rfl ?_
    exact tX10_areBorn_24 hC hK hf
  · refine pz_aload_n hC dX10_areBorn_10 0 rfl ?_
    refine pz_iload_n hC dX10_areBorn_11 1 rfl ?_
    refine pz_iconst (v := (0 : Int32)) hC dX10_areBorn_12 (by decide) ?_
    refine pz_Vi (As := [.int p1, .int (0 : Int32)]) hC hK dX10_areBorn_13 py_X10_its pv_X10_its lk_X10_56 hf (fun _ h => mX10_its h) rfl rfl (Nat.le_of_ble_eq_true rfl) ⟨by decide, by decide⟩ ⟨Nat.le_of_ble_eq_true rfl, Nat.le_of_ble_eq_true rfl⟩ (fun x3 hf => ?_)
    refine pz_iload_n hC dX10_areBorn_16 2 rfl ?_
    refine pz_icmp_gt hC dX10_areBorn_17 hf (fun _ hf => ?_) (fun _ hf => ?_)
    · refine pz_sub [] rfl ?_
      exact tX10_areBorn_24 hC hK hf
    · refine pz_iconst (v := (1 : Int32)) hC dX10_areBorn_20 (by decide) ?_
      refine pz_goto hC dX10_areBorn_21 ?_
      refine pz_sub [] rfl ?_
      exact tX10_areBorn_25 hC hK hf
def fX10_ownBy_56 (f : pz_H) (s0 : Int64) : Option (Int64 × pz_H) :=
  some (s0, f)
theorem tX10_ownBy_56 {G : pz_G} {C : pz_C} {f : pz_H} {s0 : Int64} {r : (Int64 × pz_H)} (hC : pz_OK G C cX10_ownBy 10 RX10) (hK : pz_K C (some .long) 7 158 0 0) (hf : fX10_ownBy_56 f s0 = some r) : pz_W G C 10 56 [] [.long s0] f 0 0 (pz_Q G C (some (.long r.1)) r.2 0 0) := by
  unfold fX10_ownBy_56 at hf
  exact pz_lretw hC hK dX10_ownBy_56 hf
def fnX10_ownBy (f : pz_H) (a0 : Nat) (p1 : Int32) (p2 : Int64) (p4 : Int64) : Option (Int64 × pz_H) :=
  (pz_is f a0 9).bind fun _ =>
  if (lg_cmp p4 ((0 : Int64))) = 0 then some ((0 : Int64), f) else
  (pz_gR f a0 9 1).bind fun v1 =>
  (pz_aI f v1 0 ((1 : Int32))).bind fun v2 =>
  (fnX10_shareIn f a0 p1 v2).bind fun x3 =>
  if p4 = 0 then none else
  if (lg_cmp (((((x3.1 * p2) / (1000000000 : Int64)) * (1000000000 : Int64)) / p4)) ((1000000000 : Int64))) ≤ 0 then fX10_ownBy_56 x3.2 (((((x3.1 * p2) / (1000000000 : Int64)) * (1000000000 : Int64)) / p4)) else
  fX10_ownBy_56 x3.2 ((1000000000 : Int64))
theorem mX10_ownBy {l : Launch} {G : pz_G} {f : pz_H} {a0 : Nat} {p1 : Int32} {p2 : Int64} {p4 : Int64} {r : (Int64 × pz_H)} (hf : fnX10_ownBy f a0 p1 p2 p4 = some r) : pz_Met l G yX10_ownBy cX10_ownBy 10 (some .long) 7 158 0 0 [.ref a0, .int p1, .long p2, .long p4] f (some (.long r.1)) r.2 ∧ pz_is f a0 9 = some () := by
  unfold fnX10_ownBy at hf
  obtain ⟨_, h0, hf⟩ := pz_bd hf
  refine ⟨pz_enter (by decide +kernel) (Nat.le_of_ble_eq_true rfl) (fun C hl hC hK hnm => ?_), h0⟩
  subst hl
  refine pz_sub (lv' := [(0, .ref a0), (1, .int p1), (2, .long p2), (4, .long p4)]) [0, 1, 2, 3] rfl ?_
  refine pz_lload hC dX10_ownBy_0 3 rfl ?_
  refine pz_lconst (v := 0) hC dX10_ownBy_2 (by decide) ?_
  refine pz_lcmp hC dX10_ownBy_3 ?_
  refine pz_if_ne hC dX10_ownBy_4 hf (fun _ hf => ?_) (fun _ hf => ?_)
  · refine pz_aload_n hC dX10_ownBy_9 0 rfl ?_
    refine pz_iload_n hC dX10_ownBy_10 1 rfl ?_
    refine pz_aload_n hC dX10_ownBy_11 0 rfl ?_
    refine pz_getR hC dX10_ownBy_12 fa_X10_7 hf (fun v1 hf => ?_)
    refine pz_iconst (v := (1 : Int32)) hC dX10_ownBy_15 (by decide) ?_
    refine pz_iald hC dX10_ownBy_16 hf (fun v2 hf => ?_)
    refine pz_Vlw (As := [.int p1, .int v2]) hC hK dX10_ownBy_17 py_X10_shareIn pv_X10_shareIn lk_X10_128 hf (fun _ h => mX10_shareIn h) rfl rfl (Nat.le_of_ble_eq_true rfl) ⟨by decide, by decide⟩ ⟨Nat.le_of_ble_eq_true rfl, Nat.le_of_ble_eq_true rfl⟩ (fun x3 hf => ?_)
    refine pz_lload_n hC dX10_ownBy_20 2 rfl ?_
    refine pz_lmul hC dX10_ownBy_21 ?_
    refine pz_ldc2 hC dX10_ownBy_22 ck_X10_87 ?_
    refine pz_ldivc hC dX10_ownBy_25 (by decide) ?_
    refine pz_lstore hC dX10_ownBy_26 (by decide) rfl ?_
    refine pz_lload hC dX10_ownBy_28 0 rfl ?_
    refine pz_ldc2 hC dX10_ownBy_30 ck_X10_87 ?_
    refine pz_lmul hC dX10_ownBy_33 ?_
    refine pz_lload hC dX10_ownBy_34 4 rfl ?_
    refine pz_ldiv hC dX10_ownBy_36 hf (fun hf => ?_)
    refine pz_lstore hC dX10_ownBy_37 (by decide) rfl ?_
    refine pz_lload hC dX10_ownBy_39 0 rfl ?_
    refine pz_ldc2 hC dX10_ownBy_41 ck_X10_87 ?_
    refine pz_lcmp hC dX10_ownBy_44 ?_
    refine pz_if_le hC dX10_ownBy_45 hf (fun _ hf => ?_) (fun _ hf => ?_)
    · refine pz_lload hC dX10_ownBy_54 0 rfl ?_
      refine pz_sub [] rfl ?_
      exact tX10_ownBy_56 hC hK hf
    · refine pz_ldc2 hC dX10_ownBy_48 ck_X10_87 ?_
      refine pz_goto hC dX10_ownBy_51 ?_
      refine pz_sub [] rfl ?_
      exact tX10_ownBy_56 hC hK hf
  · refine pz_lconst (v := 0) hC dX10_ownBy_7 (by decide) ?_
    exact pz_lretw hC hK dX10_ownBy_8 hf
def fX10_ownOf_29 (f : pz_H) : Option (Int64 × pz_H) :=
  some ((0 : Int64), f)
theorem tX10_ownOf_29 {G : pz_G} {C : pz_C} {f : pz_H} {r : (Int64 × pz_H)} (hC : pz_OK G C cX10_ownOf 3 RX10) (hK : pz_K C (some .long) 8 187 0 0) (hf : fX10_ownOf_29 f = some r) : pz_W G C 3 29 [] [] f 0 0 (pz_Q G C (some (.long r.1)) r.2 0 0) := by
  unfold fX10_ownOf_29 at hf
  refine pz_lconst (v := 0) hC dX10_ownOf_29 (by decide) ?_
  exact pz_lretw hC hK dX10_ownOf_30 hf
def fnX10_ownOf (f : pz_H) (a0 : Nat) (p1 : Int32) : Option (Int64 × pz_H) :=
  (pz_is f a0 9).bind fun _ =>
  (pz_gR f a0 9 1).bind fun v1 =>
  (pz_aI f v1 0 ((1 : Int32))).bind fun v2 =>
  if v2 = ((-1) : Int32) then fX10_ownOf_29 f else
  (fnX10_isParted f a0 p1).bind fun x3 =>
  if x3 = 0 then fX10_ownOf_29 f else
  (fnX10_areBorn f a0 p1 v2).bind fun x4 =>
  if x4 = 0 then fX10_ownOf_29 f else
  (pz_gR f a0 9 8).bind fun v5 =>
  (fnX10_laysOdds f a0 v5 ((10 : Int32)) v2).bind fun x6 =>
  (pz_gR x6 a0 9 9).bind fun v7 =>
  (fnX10_laysOdds x6 a0 v7 p1 v2).bind fun x8 =>
  (pz_gR x8 a0 9 8).bind fun v9 =>
  (fnX10_annuityBy x8 a0 v9 v2 v2).bind fun x10 =>
  (pz_gR x10.2 a0 9 9).bind fun v11 =>
  (fnX10_begin x10.2 a0 p1).bind fun x12 =>
  (fnX10_annuityBy x10.2 a0 v11 v2 x12).bind fun x13 =>
  (fnX10_ownBy x13.2 a0 p1 x10.1 x13.1).bind fun x14 =>
  some (x14.1, x14.2)
theorem mX10_ownOf {l : Launch} {G : pz_G} {f : pz_H} {a0 : Nat} {p1 : Int32} {r : (Int64 × pz_H)} (hf : fnX10_ownOf f a0 p1 = some r) : pz_Met l G yX10_ownOf cX10_ownOf 3 (some .long) 8 187 0 0 [.ref a0, .int p1] f (some (.long r.1)) r.2 ∧ pz_is f a0 9 = some () := by
  unfold fnX10_ownOf at hf
  obtain ⟨_, h0, hf⟩ := pz_bd hf
  refine ⟨pz_enter (by decide +kernel) (Nat.le_of_ble_eq_true rfl) (fun C hl hC hK hnm => ?_), h0⟩
  subst hl
  refine pz_sub (lv' := [(0, .ref a0), (1, .int p1)]) [0, 1] rfl ?_
  refine pz_aload_n hC dX10_ownOf_0 0 rfl ?_
  refine pz_getR hC dX10_ownOf_1 fa_X10_7 hf (fun v1 hf => ?_)
  refine pz_iconst (v := (1 : Int32)) hC dX10_ownOf_4 (by decide) ?_
  refine pz_iald hC dX10_ownOf_5 hf (fun v2 hf => ?_)
  refine pz_istore_n hC dX10_ownOf_6 (by decide) rfl ?_
  refine pz_iload_n hC dX10_ownOf_7 0 rfl ?_
  refine pz_iconst (v := ((-1) : Int32)) hC dX10_ownOf_8 (by decide) ?_
  refine pz_icmp_eq hC dX10_ownOf_9 hf (fun _ hf => ?_) (fun _ hf => ?_)
  · refine pz_sub [] rfl ?_
    exact tX10_ownOf_29 hC hK hf
  · refine pz_aload_n hC dX10_ownOf_12 1 rfl ?_
    refine pz_iload_n hC dX10_ownOf_13 2 rfl ?_
    refine pz_Vi (As := [.int p1]) hC hK dX10_ownOf_14 py_X10_isParted pv_X10_isParted lk_X10_91 hf (fun _ h => mX10_isParted h) rfl rfl (Nat.le_of_ble_eq_true rfl) ⟨by decide, by decide⟩ ⟨Nat.le_of_ble_eq_true rfl, Nat.le_of_ble_eq_true rfl⟩ (fun x3 hf => ?_)
    refine pz_if_eq hC dX10_ownOf_17 hf (fun _ hf => ?_) (fun _ hf => ?_)
    · refine pz_sub [] rfl ?_
      exact tX10_ownOf_29 hC hK hf
    · refine pz_aload_n hC dX10_ownOf_20 1 rfl ?_
      refine pz_iload_n hC dX10_ownOf_21 2 rfl ?_
      refine pz_iload_n hC dX10_ownOf_22 0 rfl ?_
      refine pz_Vi (As := [.int p1, .int v2]) hC hK dX10_ownOf_23 py_X10_areBorn pv_X10_areBorn lk_X10_109 hf (fun _ h => mX10_areBorn h) rfl rfl (Nat.le_of_ble_eq_true rfl) ⟨by decide, by decide⟩ ⟨Nat.le_of_ble_eq_true rfl, Nat.le_of_ble_eq_true rfl⟩ (fun x4 hf => ?_)
      refine pz_if_ne hC dX10_ownOf_26 hf (fun _ hf => ?_) (fun _ hf => ?_)
      · refine pz_aload_n hC dX10_ownOf_31 1 rfl ?_
        refine pz_aload_n hC dX10_ownOf_32 1 rfl ?_
        refine pz_getR hC dX10_ownOf_33 fa_X10_26 hf (fun v5 hf => ?_)
        refine pz_bipush (v := (10 : Int32)) hC dX10_ownOf_36 (by decide) ?_
        refine pz_iload_n hC dX10_ownOf_38 0 rfl ?_
        refine pz_Vv (As := [.ref v5, .int (10 : Int32), .int v2]) hC hK dX10_ownOf_39 py_X10_laysOdds pv_X10_laysOdds lk_X10_113 hf (fun _ h => mX10_laysOdds h) rfl rfl (Nat.le_of_ble_eq_true rfl) ⟨by decide, by decide⟩ ⟨Nat.le_of_ble_eq_true rfl, Nat.le_of_ble_eq_true rfl⟩ (fun x6 hf => ?_)
        refine pz_aload_n hC dX10_ownOf_42 1 rfl ?_
        refine pz_aload_n hC dX10_ownOf_43 1 rfl ?_
        refine pz_getR hC dX10_ownOf_44 fa_X10_29 hf (fun v7 hf => ?_)
        refine pz_iload_n hC dX10_ownOf_47 2 rfl ?_
        refine pz_iload_n hC dX10_ownOf_48 0 rfl ?_
        refine pz_Vv (As := [.ref v7, .int p1, .int v2]) hC hK dX10_ownOf_49 py_X10_laysOdds pv_X10_laysOdds lk_X10_113 hf (fun _ h => mX10_laysOdds h) rfl rfl (Nat.le_of_ble_eq_true rfl) ⟨by decide, by decide⟩ ⟨Nat.le_of_ble_eq_true rfl, Nat.le_of_ble_eq_true rfl⟩ (fun x8 hf => ?_)
        refine pz_aload_n hC dX10_ownOf_52 1 rfl ?_
        refine pz_iload_n hC dX10_ownOf_53 2 rfl ?_
        refine pz_aload_n hC dX10_ownOf_54 1 rfl ?_
        refine pz_aload_n hC dX10_ownOf_55 1 rfl ?_
        refine pz_getR hC dX10_ownOf_56 fa_X10_26 hf (fun v9 hf => ?_)
        refine pz_iload_n hC dX10_ownOf_59 0 rfl ?_
        refine pz_iload_n hC dX10_ownOf_60 0 rfl ?_
        refine pz_Vlw (As := [.ref v9, .int v2, .int v2]) hC hK dX10_ownOf_61 py_X10_annuityBy pv_X10_annuityBy lk_X10_117 hf (fun _ h => mX10_annuityBy h) rfl rfl (Nat.le_of_ble_eq_true rfl) ⟨by decide, by decide⟩ ⟨Nat.le_of_ble_eq_true rfl, Nat.le_of_ble_eq_true rfl⟩ (fun x10 hf => ?_)
        refine pz_aload_n hC dX10_ownOf_64 1 rfl ?_
        refine pz_aload_n hC dX10_ownOf_65 1 rfl ?_
        refine pz_getR hC dX10_ownOf_66 fa_X10_29 hf (fun v11 hf => ?_)
        refine pz_iload_n hC dX10_ownOf_69 0 rfl ?_
        refine pz_aload_n hC dX10_ownOf_70 1 rfl ?_
        refine pz_iload_n hC dX10_ownOf_71 2 rfl ?_
        refine pz_Vi (As := [.int p1]) hC hK dX10_ownOf_72 py_X10_begin pv_X10_begin lk_X10_121 hf (fun _ h => mX10_begin h) rfl rfl (Nat.le_of_ble_eq_true rfl) ⟨by decide, by decide⟩ ⟨Nat.le_of_ble_eq_true rfl, Nat.le_of_ble_eq_true rfl⟩ (fun x12 hf => ?_)
        refine pz_Vlw (As := [.ref v11, .int v2, .int x12]) hC hK dX10_ownOf_75 py_X10_annuityBy pv_X10_annuityBy lk_X10_117 hf (fun _ h => mX10_annuityBy h) rfl rfl (Nat.le_of_ble_eq_true rfl) ⟨by decide, by decide⟩ ⟨Nat.le_of_ble_eq_true rfl, Nat.le_of_ble_eq_true rfl⟩ (fun x13 hf => ?_)
        refine pz_Vlw (As := [.int p1, .long x10.1, .long x13.1]) hC hK dX10_ownOf_78 py_X10_ownBy pv_X10_ownBy lk_X10_124 hf (fun _ h => mX10_ownBy h) rfl rfl (Nat.le_of_ble_eq_true rfl) ⟨by decide, by decide⟩ ⟨Nat.le_of_ble_eq_true rfl, Nat.le_of_ble_eq_true rfl⟩ (fun x14 hf => ?_)
        exact pz_lretw hC hK dX10_ownOf_81 hf
      · refine pz_sub [] rfl ?_
        exact tX10_ownOf_29 hC hK hf
def fX10_livesIn_15 (f : pz_H) (s0 : Int32) : Option Int32 :=
  pz_b s0
theorem tX10_livesIn_15 {G : pz_G} {C : pz_C} {f : pz_H} {s0 : Int32} {r : Int32} (hC : pz_OK G C cX10_livesIn 3 RX10) (hK : pz_K C (some .boolean) 0 0 0 0) (hf : fX10_livesIn_15 f s0 = some r) : pz_W G C 3 15 [] [.int s0] f 0 0 (pz_Q G C (some (.int r)) f 0 0) := by
  unfold fX10_livesIn_15 at hf
  exact pz_zret hC hK dX10_livesIn_15 hf
def fX10_livesIn_10 (f : pz_H) : Option Int32 :=
  fX10_livesIn_15 f ((1 : Int32))
theorem tX10_livesIn_10 {G : pz_G} {C : pz_C} {f : pz_H} {r : Int32} (hC : pz_OK G C cX10_livesIn 3 RX10) (hK : pz_K C (some .boolean) 0 0 0 0) (hf : fX10_livesIn_10 f = some r) : pz_W G C 3 10 [] [] f 0 0 (pz_Q G C (some (.int r)) f 0 0) := by
  unfold fX10_livesIn_10 at hf
  refine pz_iconst (v := (1 : Int32)) hC dX10_livesIn_10 (by decide) ?_
  refine pz_goto hC dX10_livesIn_11 ?_
  exact tX10_livesIn_15 hC hK hf
def fnX10_livesIn (f : pz_H) (a0 : Nat) (p1 : Int32) (p2 : Int32) : Option Int32 :=
  (pz_is f a0 9).bind fun _ =>
  if p1 = ((-1) : Int32) then fX10_livesIn_10 f else
  if p1 ≤ p2 then fX10_livesIn_15 f ((0 : Int32)) else
  fX10_livesIn_10 f
theorem mX10_livesIn {l : Launch} {G : pz_G} {f : pz_H} {a0 : Nat} {p1 : Int32} {p2 : Int32} {r : Int32} (hf : fnX10_livesIn f a0 p1 p2 = some r) : pz_Met l G yX10_livesIn cX10_livesIn 3 (some .boolean) 0 0 0 0 [.ref a0, .int p1, .int p2] f (some (.int r)) f ∧ pz_is f a0 9 = some () := by
  unfold fnX10_livesIn at hf
  obtain ⟨_, h0, hf⟩ := pz_bd hf
  refine ⟨pz_enter (by decide +kernel) (Nat.le_of_ble_eq_true rfl) (fun C hl hC hK hnm => ?_), h0⟩
  subst hl
  refine pz_sub (lv' := [(0, .ref a0), (1, .int p1), (2, .int p2)]) [0, 1, 2] rfl ?_
  refine pz_iload_n hC dX10_livesIn_0 1 rfl ?_
  refine pz_iconst (v := ((-1) : Int32)) hC dX10_livesIn_1 (by decide) ?_
  refine pz_icmp_eq hC dX10_livesIn_2 hf (fun _ hf => ?_) (fun _ hf => ?_)
  · refine pz_sub [] rfl ?_
    exact tX10_livesIn_10 hC hK hf
  · refine pz_iload_n hC dX10_livesIn_5 2 rfl ?_
    refine pz_iload_n hC dX10_livesIn_6 1 rfl ?_
    refine pz_icmp_ge hC dX10_livesIn_7 hf (fun _ hf => ?_) (fun _ hf => ?_)
    · refine pz_iconst (v := (0 : Int32)) hC dX10_livesIn_14 (by decide) ?_
      refine pz_sub [] rfl ?_
      exact tX10_livesIn_15 hC hK hf
    · refine pz_sub [] rfl ?_
      exact tX10_livesIn_10 hC hK hf
def fX10_laysOwns_2b (k2 : pz_H → Nat → Int32 → Option pz_H) (f : pz_H) (l0 : Nat) (l1 : Int32) : Option pz_H :=
  (pz_gR f l0 9 1).bind fun v1 =>
  (pz_aI f v1 0 ((4 : Int32))).bind fun v2 =>
  if v2 ≤ l1 then some f else
  (pz_gR f l0 9 10).bind fun v3 =>
  (fnX10_ownOf f l0 l1).bind fun x4 =>
  (pz_tL x4.2 v3 1 l1 x4.1).bind fun f5 =>
  k2 f5 l0 ((l1 + 1))
theorem tX10_laysOwns_2b {G : pz_G} {C : pz_C} {f : pz_H} {k2 : pz_H → Nat → Int32 → Option pz_H} {l0 : Nat} {l1 : Int32} {r : pz_H} (hC : pz_OK G C cX10_laysOwns 2 RX10) (hK : pz_K C none 9 209 0 0) (hk2 : ∀ (g : pz_H) (a0 : Nat) (a1 : Int32), k2 g a0 a1 = some r → pz_W G C 2 2 [(0, .ref a0), (1, .int a1)] [] g 0 0 (pz_Q G C none r 0 0)) (hf : fX10_laysOwns_2b k2 f l0 l1 = some r) : pz_W G C 2 2 [(0, .ref l0), (1, .int l1)] [] f 0 0 (pz_Q G C none r 0 0) := by
  unfold fX10_laysOwns_2b at hf
  refine pz_iload_n hC dX10_laysOwns_2 1 rfl ?_
  refine pz_aload_n hC dX10_laysOwns_3 0 rfl ?_
  refine pz_getR hC dX10_laysOwns_4 fa_X10_7 hf (fun v1 hf => ?_)
  refine pz_iconst (v := (4 : Int32)) hC dX10_laysOwns_7 (by decide) ?_
  refine pz_iald hC dX10_laysOwns_8 hf (fun v2 hf => ?_)
  refine pz_icmp_ge hC dX10_laysOwns_9 hf (fun _ hf => ?_) (fun _ hf => ?_)
  · exact pz_vret hC hK dX10_laysOwns_29 hf
  · refine pz_aload_n hC dX10_laysOwns_12 0 rfl ?_
    refine pz_getR hC dX10_laysOwns_13 fa_X10_32 hf (fun v3 hf => ?_)
    refine pz_iload_n hC dX10_laysOwns_16 1 rfl ?_
    refine pz_aload_n hC dX10_laysOwns_17 0 rfl ?_
    refine pz_iload_n hC dX10_laysOwns_18 1 rfl ?_
    refine pz_Vlw (As := [.int l1]) hC hK dX10_laysOwns_19 py_X10_ownOf pv_X10_ownOf lk_X10_132 hf (fun _ h => mX10_ownOf h) rfl rfl (Nat.le_of_ble_eq_true rfl) ⟨by decide, by decide⟩ ⟨Nat.le_of_ble_eq_true rfl, Nat.le_of_ble_eq_true rfl⟩ (fun x4 hf => ?_)
    refine pz_last hC dX10_laysOwns_22 hf (fun f5 hf => ?_)
    refine pz_iinc (v := (l1 + 1)) hC dX10_laysOwns_23 1 rfl rfl (by decide) rfl ?_
    refine pz_goto hC dX10_laysOwns_26 ?_
    refine pz_sub [1, 0] rfl ?_
    exact hk2 _ _ _ hf
def fX10_laysOwns_2 : Nat → pz_H → Nat → Int32 → Option pz_H
  | 0, _, _, _ => none
  | n + 1, f, l0, l1 => fX10_laysOwns_2b (fX10_laysOwns_2 n) f l0 l1
theorem tX10_laysOwns_2 {G : pz_G} {C : pz_C} {r : pz_H} (hC : pz_OK G C cX10_laysOwns 2 RX10) (hK : pz_K C none 9 209 0 0) : ∀ (N : Nat) (f : pz_H) (l0 : Nat) (l1 : Int32), fX10_laysOwns_2 N f l0 l1 = some r → pz_W G C 2 2 [(0, .ref l0), (1, .int l1)] [] f 0 0 (pz_Q G C none r 0 0) := by
  intro N
  induction N with
  | zero => intro f l0 l1 hf; cases hf
  | succ N ih => intro f l0 l1 hf; exact tX10_laysOwns_2b hC hK (fun f l0 l1 hf => ih f l0 l1 hf) hf
def fnX10_laysOwns (f : pz_H) (a0 : Nat) : Option pz_H :=
  (pz_is f a0 9).bind fun _ =>
  fX10_laysOwns_2 pz_F f a0 ((0 : Int32))
theorem mX10_laysOwns {l : Launch} {G : pz_G} {f : pz_H} {a0 : Nat} {r : pz_H} (hf : fnX10_laysOwns f a0 = some r) : pz_Met l G yX10_laysOwns cX10_laysOwns 2 none 9 209 0 0 [.ref a0] f none r ∧ pz_is f a0 9 = some () := by
  unfold fnX10_laysOwns at hf
  obtain ⟨_, h0, hf⟩ := pz_bd hf
  refine ⟨pz_enter (by decide +kernel) (Nat.le_of_ble_eq_true rfl) (fun C hl hC hK hnm => ?_), h0⟩
  subst hl
  refine pz_sub (lv' := [(0, .ref a0)]) [0] rfl ?_
  refine pz_iconst (v := (0 : Int32)) hC dX10_laysOwns_0 (by decide) ?_
  refine pz_istore_n hC dX10_laysOwns_1 (by decide) rfl ?_
  refine pz_sub [1, 0] rfl ?_
  exact tX10_laysOwns_2 hC hK _ _ _ _ hf
def fX10_isPaid_57 (f : pz_H) (s0 : Int32) : Option Int32 :=
  pz_b s0
theorem tX10_isPaid_57 {G : pz_G} {C : pz_C} {f : pz_H} {s0 : Int32} {r : Int32} (hC : pz_OK G C cX10_isPaid 3 RX10) (hK : pz_K C (some .boolean) 2 43 0 0) (hf : fX10_isPaid_57 f s0 = some r) : pz_W G C 3 57 [] [.int s0] f 0 0 (pz_Q G C (some (.int r)) f 0 0) := by
  unfold fX10_isPaid_57 at hf
  exact pz_zret hC hK dX10_isPaid_57 hf
def fX10_isPaid_56 (f : pz_H) : Option Int32 :=
  fX10_isPaid_57 f ((0 : Int32))
theorem tX10_isPaid_56 {G : pz_G} {C : pz_C} {f : pz_H} {r : Int32} (hC : pz_OK G C cX10_isPaid 3 RX10) (hK : pz_K C (some .boolean) 2 43 0 0) (hf : fX10_isPaid_56 f = some r) : pz_W G C 3 56 [] [] f 0 0 (pz_Q G C (some (.int r)) f 0 0) := by
  unfold fX10_isPaid_56 at hf
  refine pz_iconst (v := (0 : Int32)) hC dX10_isPaid_56 (by decide) ?_
  exact tX10_isPaid_57 hC hK hf
def fnX10_isPaid (f : pz_H) (a0 : Nat) (p1 : Int32) (p2 : Int32) : Option Int32 :=
  (pz_is f a0 9).bind fun _ =>
  (fnX10_isParted f a0 p1).bind fun x1 =>
  if x1 = 0 then fX10_isPaid_56 f else
  (fnX10_its f a0 p1 ((2 : Int32))).bind fun x2 =>
  if p2 < x2 then fX10_isPaid_56 f else
  (pz_gR f a0 9 1).bind fun v3 =>
  (pz_aI f v3 0 ((1 : Int32))).bind fun v4 =>
  if v4 = ((-1) : Int32) then fX10_isPaid_56 f else
  (fnX10_begin f a0 p1).bind fun x5 =>
  if p2 < x5 then fX10_isPaid_56 f else
  (fnX10_its f a0 p1 ((7 : Int32))).bind fun x6 =>
  (fnX10_livesIn f a0 x6 p2).bind fun x7 =>
  if x7 = 0 then fX10_isPaid_56 f else
  fX10_isPaid_57 f ((1 : Int32))
theorem mX10_isPaid {l : Launch} {G : pz_G} {f : pz_H} {a0 : Nat} {p1 : Int32} {p2 : Int32} {r : Int32} (hf : fnX10_isPaid f a0 p1 p2 = some r) : pz_Met l G yX10_isPaid cX10_isPaid 3 (some .boolean) 2 43 0 0 [.ref a0, .int p1, .int p2] f (some (.int r)) f ∧ pz_is f a0 9 = some () := by
  unfold fnX10_isPaid at hf
  obtain ⟨_, h0, hf⟩ := pz_bd hf
  refine ⟨pz_enter (by decide +kernel) (Nat.le_of_ble_eq_true rfl) (fun C hl hC hK hnm => ?_), h0⟩
  subst hl
  refine pz_sub (lv' := [(0, .ref a0), (1, .int p1), (2, .int p2)]) [0, 1, 2] rfl ?_
  refine pz_aload_n hC dX10_isPaid_0 0 rfl ?_
  refine pz_iload_n hC dX10_isPaid_1 1 rfl ?_
  refine pz_Vi (As := [.int p1]) hC hK dX10_isPaid_2 py_X10_isParted pv_X10_isParted lk_X10_91 hf (fun _ h => mX10_isParted h) rfl rfl (Nat.le_of_ble_eq_true rfl) ⟨by decide, by decide⟩ ⟨Nat.le_of_ble_eq_true rfl, Nat.le_of_ble_eq_true rfl⟩ (fun x1 hf => ?_)
  refine pz_if_eq hC dX10_isPaid_5 hf (fun _ hf => ?_) (fun _ hf => ?_)
  · refine pz_sub [] rfl ?_
    exact tX10_isPaid_56 hC hK hf
  · refine pz_aload_n hC dX10_isPaid_8 0 rfl ?_
    refine pz_iload_n hC dX10_isPaid_9 1 rfl ?_
    refine pz_iconst (v := (2 : Int32)) hC dX10_isPaid_10 (by decide) ?_
    refine pz_Vi (As := [.int p1, .int (2 : Int32)]) hC hK dX10_isPaid_11 py_X10_its pv_X10_its lk_X10_56 hf (fun _ h => mX10_its h) rfl rfl (Nat.le_of_ble_eq_true rfl) ⟨by decide, by decide⟩ ⟨Nat.le_of_ble_eq_true rfl, Nat.le_of_ble_eq_true rfl⟩ (fun x2 hf => ?_)
    refine pz_iload_n hC dX10_isPaid_14 2 rfl ?_
    refine pz_icmp_gt hC dX10_isPaid_15 hf (fun _ hf => ?_) (fun _ hf => ?_)
    · refine pz_sub [] rfl ?_
      exact tX10_isPaid_56 hC hK hf
    · refine pz_aload_n hC dX10_isPaid_18 0 rfl ?_
      refine pz_getR hC dX10_isPaid_19 fa_X10_7 hf (fun v3 hf => ?_)
      refine pz_iconst (v := (1 : Int32)) hC dX10_isPaid_22 (by decide) ?_
      refine pz_iald hC dX10_isPaid_23 hf (fun v4 hf => ?_)
      refine pz_iconst (v := ((-1) : Int32)) hC dX10_isPaid_24 (by decide) ?_
      refine pz_icmp_eq hC dX10_isPaid_25 hf (fun _ hf => ?_) (fun _ hf => ?_)
      · refine pz_sub [] rfl ?_
        exact tX10_isPaid_56 hC hK hf
      · refine pz_iload_n hC dX10_isPaid_28 2 rfl ?_
        refine pz_aload_n hC dX10_isPaid_29 0 rfl ?_
        refine pz_iload_n hC dX10_isPaid_30 1 rfl ?_
        refine pz_Vi (As := [.int p1]) hC hK dX10_isPaid_31 py_X10_begin pv_X10_begin lk_X10_121 hf (fun _ h => mX10_begin h) rfl rfl (Nat.le_of_ble_eq_true rfl) ⟨by decide, by decide⟩ ⟨Nat.le_of_ble_eq_true rfl, Nat.le_of_ble_eq_true rfl⟩ (fun x5 hf => ?_)
        refine pz_icmp_lt hC dX10_isPaid_34 hf (fun _ hf => ?_) (fun _ hf => ?_)
        · refine pz_sub [] rfl ?_
          exact tX10_isPaid_56 hC hK hf
        · refine pz_aload_n hC dX10_isPaid_37 0 rfl ?_
          refine pz_aload_n hC dX10_isPaid_38 0 rfl ?_
          refine pz_iload_n hC dX10_isPaid_39 1 rfl ?_
          refine pz_bipush (v := (7 : Int32)) hC dX10_isPaid_40 (by decide) ?_
          refine pz_Vi (As := [.int p1, .int (7 : Int32)]) hC hK dX10_isPaid_42 py_X10_its pv_X10_its lk_X10_56 hf (fun _ h => mX10_its h) rfl rfl (Nat.le_of_ble_eq_true rfl) ⟨by decide, by decide⟩ ⟨Nat.le_of_ble_eq_true rfl, Nat.le_of_ble_eq_true rfl⟩ (fun x6 hf => ?_)
          refine pz_iload_n hC dX10_isPaid_45 2 rfl ?_
          refine pz_Vi (As := [.int x6, .int p2]) hC hK dX10_isPaid_46 py_X10_livesIn pv_X10_livesIn lk_X10_136 hf (fun _ h => mX10_livesIn h) rfl rfl (Nat.le_of_ble_eq_true rfl) ⟨by decide, by decide⟩ ⟨Nat.le_of_ble_eq_true rfl, Nat.le_of_ble_eq_true rfl⟩ (fun x7 hf => ?_)
          refine pz_if_eq hC dX10_isPaid_49 hf (fun _ hf => ?_) (fun _ hf => ?_)
          · refine pz_sub [] rfl ?_
            exact tX10_isPaid_56 hC hK hf
          · refine pz_iconst (v := (1 : Int32)) hC dX10_isPaid_52 (by decide) ?_
            refine pz_goto hC dX10_isPaid_53 ?_
            refine pz_sub [] rfl ?_
            exact tX10_isPaid_57 hC hK hf
def fX10_paidBy_64 (f : pz_H) (s0 : Int64) : Option (Int64 × pz_H) :=
  some (s0, f)
theorem tX10_paidBy_64 {G : pz_G} {C : pz_C} {f : pz_H} {s0 : Int64} {r : (Int64 × pz_H)} (hC : pz_OK G C cX10_paidBy 6 RX10) (hK : pz_K C (some .long) 7 158 0 0) (hf : fX10_paidBy_64 f s0 = some r) : pz_W G C 6 64 [] [.long s0] f 0 0 (pz_Q G C (some (.long r.1)) r.2 0 0) := by
  unfold fX10_paidBy_64 at hf
  exact pz_lretw hC hK dX10_paidBy_64 hf
def fnX10_paidBy (f : pz_H) (a0 : Nat) (p1 : Int32) (p2 : Int32) (p3 : Int32) : Option (Int64 × pz_H) :=
  (pz_is f a0 9).bind fun _ =>
  (fnX10_isPaid f a0 p1 p2).bind fun x1 =>
  if x1 = 0 then some ((0 : Int64), f) else
  if p3 = (1 : Int32) then (pz_gR f a0 9 10).bind fun v7 =>
  (pz_aL f v7 1 p1).bind fun v8 =>
  some (v8, f) else
  (fnX10_shareIn f a0 p1 p2).bind fun x2 =>
  (pz_gR x2.2 a0 9 1).bind fun v3 =>
  (pz_aI x2.2 v3 0 ((2 : Int32))).bind fun v4 =>
  (fnX10_livesIn x2.2 a0 v4 p2).bind fun x5 =>
  if x5 = 0 then (fnX10_its x2.2 a0 p1 ((5 : Int32))).bind fun x6 =>
  fX10_paidBy_64 x2.2 (((x2.1 * x6.toInt64) / (1000 : Int64))) else
  fX10_paidBy_64 x2.2 x2.1
theorem mX10_paidBy {l : Launch} {G : pz_G} {f : pz_H} {a0 : Nat} {p1 : Int32} {p2 : Int32} {p3 : Int32} {r : (Int64 × pz_H)} (hf : fnX10_paidBy f a0 p1 p2 p3 = some r) : pz_Met l G yX10_paidBy cX10_paidBy 6 (some .long) 7 158 0 0 [.ref a0, .int p1, .int p2, .int p3] f (some (.long r.1)) r.2 ∧ pz_is f a0 9 = some () := by
  unfold fnX10_paidBy at hf
  obtain ⟨_, h0, hf⟩ := pz_bd hf
  refine ⟨pz_enter (by decide +kernel) (Nat.le_of_ble_eq_true rfl) (fun C hl hC hK hnm => ?_), h0⟩
  subst hl
  refine pz_sub (lv' := [(0, .ref a0), (1, .int p1), (2, .int p2), (3, .int p3)]) [0, 1, 2, 3] rfl ?_
  refine pz_aload_n hC dX10_paidBy_0 0 rfl ?_
  refine pz_iload_n hC dX10_paidBy_1 1 rfl ?_
  refine pz_iload_n hC dX10_paidBy_2 2 rfl ?_
  refine pz_Vi (As := [.int p1, .int p2]) hC hK dX10_paidBy_3 py_X10_isPaid pv_X10_isPaid lk_X10_139 hf (fun _ h => mX10_isPaid h) rfl rfl (Nat.le_of_ble_eq_true rfl) ⟨by decide, by decide⟩ ⟨Nat.le_of_ble_eq_true rfl, Nat.le_of_ble_eq_true rfl⟩ (fun x1 hf => ?_)
  refine pz_if_ne hC dX10_paidBy_6 hf (fun _ hf => ?_) (fun _ hf => ?_)
  · refine pz_iload_n hC dX10_paidBy_11 3 rfl ?_
    refine pz_iconst (v := (1 : Int32)) hC dX10_paidBy_12 (by decide) ?_
    refine pz_icmp_ne hC dX10_paidBy_13 hf (fun _ hf => ?_) (fun _ hf => ?_)
    · refine pz_aload_n hC dX10_paidBy_23 0 rfl ?_
      refine pz_iload_n hC dX10_paidBy_24 1 rfl ?_
      refine pz_iload_n hC dX10_paidBy_25 2 rfl ?_
      refine pz_Vlw (As := [.int p1, .int p2]) hC hK dX10_paidBy_26 py_X10_shareIn pv_X10_shareIn lk_X10_128 hf (fun _ h => mX10_shareIn h) rfl rfl (Nat.le_of_ble_eq_true rfl) ⟨by decide, by decide⟩ ⟨Nat.le_of_ble_eq_true rfl, Nat.le_of_ble_eq_true rfl⟩ (fun x2 hf => ?_)
      refine pz_lstore hC dX10_paidBy_29 (by decide) rfl ?_
      refine pz_aload_n hC dX10_paidBy_31 1 rfl ?_
      refine pz_aload_n hC dX10_paidBy_32 1 rfl ?_
      refine pz_getR hC dX10_paidBy_33 fa_X10_7 hf (fun v3 hf => ?_)
      refine pz_iconst (v := (2 : Int32)) hC dX10_paidBy_36 (by decide) ?_
      refine pz_iald hC dX10_paidBy_37 hf (fun v4 hf => ?_)
      refine pz_iload_n hC dX10_paidBy_38 3 rfl ?_
      refine pz_Vi (As := [.int v4, .int p2]) hC hK dX10_paidBy_39 py_X10_livesIn pv_X10_livesIn lk_X10_136 hf (fun _ h => mX10_livesIn h) rfl rfl (Nat.le_of_ble_eq_true rfl) ⟨by decide, by decide⟩ ⟨Nat.le_of_ble_eq_true rfl, Nat.le_of_ble_eq_true rfl⟩ (fun x5 hf => ?_)
      refine pz_if_eq hC dX10_paidBy_42 hf (fun _ hf => ?_) (fun _ hf => ?_)
      · refine pz_lload hC dX10_paidBy_50 0 rfl ?_
        refine pz_aload_n hC dX10_paidBy_52 1 rfl ?_
        refine pz_iload_n hC dX10_paidBy_53 2 rfl ?_
        refine pz_iconst (v := (5 : Int32)) hC dX10_paidBy_54 (by decide) ?_
        refine pz_Vi (As := [.int p1, .int (5 : Int32)]) hC hK dX10_paidBy_55 py_X10_its pv_X10_its lk_X10_56 hf (fun _ h => mX10_its h) rfl rfl (Nat.le_of_ble_eq_true rfl) ⟨by decide, by decide⟩ ⟨Nat.le_of_ble_eq_true rfl, Nat.le_of_ble_eq_true rfl⟩ (fun x6 hf => ?_)
        refine pz_i2l hC dX10_paidBy_58 ?_
        refine pz_lmul hC dX10_paidBy_59 ?_
        refine pz_ldc2 hC dX10_paidBy_60 ck_X10_78 ?_
        refine pz_ldivc hC dX10_paidBy_63 (by decide) ?_
        refine pz_sub [] rfl ?_
        exact tX10_paidBy_64 hC hK hf
      · refine pz_lload hC dX10_paidBy_45 0 rfl ?_
        refine pz_goto hC dX10_paidBy_47 ?_
        refine pz_sub [] rfl ?_
        exact tX10_paidBy_64 hC hK hf
    · refine pz_aload_n hC dX10_paidBy_16 0 rfl ?_
      refine pz_getR hC dX10_paidBy_17 fa_X10_32 hf (fun v7 hf => ?_)
      refine pz_iload_n hC dX10_paidBy_20 1 rfl ?_
      refine pz_lald hC dX10_paidBy_21 hf (fun v8 hf => ?_)
      exact pz_lretw hC hK dX10_paidBy_22 hf
  · refine pz_lconst (v := 0) hC dX10_paidBy_9 (by decide) ?_
    exact pz_lretw hC hK dX10_paidBy_10 hf
def fX10_paidMember_95 (k30 : pz_H → Nat → Int32 → Int64 → Int32 → Option (Int64 × pz_H)) (f : pz_H) (l0 : Nat) (l1 : Int32) (l2 : Int64) (l4 : Int32) : Option (Int64 × pz_H) :=
  k30 f l0 l1 l2 ((l4 + 1))
theorem tX10_paidMember_95 {G : pz_G} {C : pz_C} {f : pz_H} {k30 : pz_H → Nat → Int32 → Int64 → Int32 → Option (Int64 × pz_H)} {l0 : Nat} {l1 : Int32} {l2 : Int64} {l4 : Int32} {r : (Int64 × pz_H)} (hC : pz_OK G C cX10_paidMember 5 RX10) (hK : pz_K C (some .long) 8 183 0 0) (hk30 : ∀ (g : pz_H) (a0 : Nat) (a1 : Int32) (a2 : Int64) (a4 : Int32), k30 g a0 a1 a2 a4 = some r → pz_W G C 5 30 [(0, .ref a0), (1, .int a1), (2, .long a2), (4, .int a4)] [] g 0 0 (pz_Q G C (some (.long r.1)) r.2 0 0)) (hf : fX10_paidMember_95 k30 f l0 l1 l2 l4 = some r) : pz_W G C 5 95 [(0, .ref l0), (1, .int l1), (2, .long l2), (4, .int l4)] [] f 0 0 (pz_Q G C (some (.long r.1)) r.2 0 0) := by
  unfold fX10_paidMember_95 at hf
  refine pz_iinc (v := (l4 + 1)) hC dX10_paidMember_95 3 rfl rfl (by decide) rfl ?_
  refine pz_goto hC dX10_paidMember_98 ?_
  refine pz_sub [1, 2, 3, 0] rfl ?_
  exact hk30 _ _ _ _ _ hf
def fX10_paidMember_30b (k30 : pz_H → Nat → Int32 → Int64 → Int32 → Option (Int64 × pz_H)) (f : pz_H) (l0 : Nat) (l1 : Int32) (l2 : Int64) (l4 : Int32) : Option (Int64 × pz_H) :=
  (pz_gR f l0 9 1).bind fun v1 =>
  (pz_aI f v1 0 ((4 : Int32))).bind fun v2 =>
  if v2 ≤ l4 then some (l2, f) else
  (fnX10_its f l0 l4 ((4 : Int32))).bind fun x3 =>
  if x3 = 0 then (fnX10_paidBy f l0 l4 l1 ((0 : Int32))).bind fun x7 =>
  fX10_paidMember_95 k30 x7.2 l0 l1 ((l2 - x7.1)) l4 else
  (fnX10_isParted f l0 l4).bind fun x4 =>
  if x4 = 0 then fX10_paidMember_95 k30 f l0 l1 l2 l4 else
  (fnX10_its f l0 l4 ((2 : Int32))).bind fun x5 =>
  if l1 < x5 then fX10_paidMember_95 k30 f l0 l1 l2 l4 else
  (fnX10_shareIn f l0 l4 l1).bind fun x6 =>
  fX10_paidMember_95 k30 x6.2 l0 l1 ((l2 - x6.1)) l4
theorem tX10_paidMember_30b {G : pz_G} {C : pz_C} {f : pz_H} {k30 : pz_H → Nat → Int32 → Int64 → Int32 → Option (Int64 × pz_H)} {l0 : Nat} {l1 : Int32} {l2 : Int64} {l4 : Int32} {r : (Int64 × pz_H)} (hC : pz_OK G C cX10_paidMember 5 RX10) (hK : pz_K C (some .long) 8 183 0 0) (hk30 : ∀ (g : pz_H) (a0 : Nat) (a1 : Int32) (a2 : Int64) (a4 : Int32), k30 g a0 a1 a2 a4 = some r → pz_W G C 5 30 [(0, .ref a0), (1, .int a1), (2, .long a2), (4, .int a4)] [] g 0 0 (pz_Q G C (some (.long r.1)) r.2 0 0)) (hf : fX10_paidMember_30b k30 f l0 l1 l2 l4 = some r) : pz_W G C 5 30 [(0, .ref l0), (1, .int l1), (2, .long l2), (4, .int l4)] [] f 0 0 (pz_Q G C (some (.long r.1)) r.2 0 0) := by
  unfold fX10_paidMember_30b at hf
  refine pz_iload hC dX10_paidMember_30 3 rfl ?_
  refine pz_aload_n hC dX10_paidMember_32 0 rfl ?_
  refine pz_getR hC dX10_paidMember_33 fa_X10_7 hf (fun v1 hf => ?_)
  refine pz_iconst (v := (4 : Int32)) hC dX10_paidMember_36 (by decide) ?_
  refine pz_iald hC dX10_paidMember_37 hf (fun v2 hf => ?_)
  refine pz_icmp_ge hC dX10_paidMember_38 hf (fun _ hf => ?_) (fun _ hf => ?_)
  · refine pz_lload_n hC dX10_paidMember_101 2 rfl ?_
    exact pz_lretw hC hK dX10_paidMember_102 hf
  · refine pz_aload_n hC dX10_paidMember_41 0 rfl ?_
    refine pz_iload hC dX10_paidMember_42 3 rfl ?_
    refine pz_iconst (v := (4 : Int32)) hC dX10_paidMember_44 (by decide) ?_
    refine pz_Vi (As := [.int l4, .int (4 : Int32)]) hC hK dX10_paidMember_45 py_X10_its pv_X10_its lk_X10_56 hf (fun _ h => mX10_its h) rfl rfl (Nat.le_of_ble_eq_true rfl) ⟨by decide, by decide⟩ ⟨Nat.le_of_ble_eq_true rfl, Nat.le_of_ble_eq_true rfl⟩ (fun x3 hf => ?_)
    refine pz_if_ne hC dX10_paidMember_48 hf (fun _ hf => ?_) (fun _ hf => ?_)
    · refine pz_aload_n hC dX10_paidMember_65 0 rfl ?_
      refine pz_iload hC dX10_paidMember_66 3 rfl ?_
      refine pz_Vi (As := [.int l4]) hC hK dX10_paidMember_68 py_X10_isParted pv_X10_isParted lk_X10_91 hf (fun _ h => mX10_isParted h) rfl rfl (Nat.le_of_ble_eq_true rfl) ⟨by decide, by decide⟩ ⟨Nat.le_of_ble_eq_true rfl, Nat.le_of_ble_eq_true rfl⟩ (fun x4 hf => ?_)
      refine pz_if_eq hC dX10_paidMember_71 hf (fun _ hf => ?_) (fun _ hf => ?_)
      · exact tX10_paidMember_95 hC hK hk30 hf
      · refine pz_aload_n hC dX10_paidMember_74 0 rfl ?_
        refine pz_iload hC dX10_paidMember_75 3 rfl ?_
        refine pz_iconst (v := (2 : Int32)) hC dX10_paidMember_77 (by decide) ?_
        refine pz_Vi (As := [.int l4, .int (2 : Int32)]) hC hK dX10_paidMember_78 py_X10_its pv_X10_its lk_X10_56 hf (fun _ h => mX10_its h) rfl rfl (Nat.le_of_ble_eq_true rfl) ⟨by decide, by decide⟩ ⟨Nat.le_of_ble_eq_true rfl, Nat.le_of_ble_eq_true rfl⟩ (fun x5 hf => ?_)
        refine pz_iload_n hC dX10_paidMember_81 1 rfl ?_
        refine pz_icmp_gt hC dX10_paidMember_82 hf (fun _ hf => ?_) (fun _ hf => ?_)
        · exact tX10_paidMember_95 hC hK hk30 hf
        · refine pz_lload_n hC dX10_paidMember_85 2 rfl ?_
          refine pz_aload_n hC dX10_paidMember_86 0 rfl ?_
          refine pz_iload hC dX10_paidMember_87 3 rfl ?_
          refine pz_iload_n hC dX10_paidMember_89 1 rfl ?_
          refine pz_Vlw (As := [.int l4, .int l1]) hC hK dX10_paidMember_90 py_X10_shareIn pv_X10_shareIn lk_X10_128 hf (fun _ h => mX10_shareIn h) rfl rfl (Nat.le_of_ble_eq_true rfl) ⟨by decide, by decide⟩ ⟨Nat.le_of_ble_eq_true rfl, Nat.le_of_ble_eq_true rfl⟩ (fun x6 hf => ?_)
          refine pz_lsub hC dX10_paidMember_93 ?_
          refine pz_lstore_n hC dX10_paidMember_94 (by decide) rfl ?_
          refine pz_sub [1, 2, 0, 3] rfl ?_
          exact tX10_paidMember_95 hC hK hk30 hf
    · refine pz_lload_n hC dX10_paidMember_51 2 rfl ?_
      refine pz_aload_n hC dX10_paidMember_52 0 rfl ?_
      refine pz_iload hC dX10_paidMember_53 3 rfl ?_
      refine pz_iload_n hC dX10_paidMember_55 1 rfl ?_
      refine pz_iconst (v := (0 : Int32)) hC dX10_paidMember_56 (by decide) ?_
      refine pz_Vlw (As := [.int l4, .int l1, .int (0 : Int32)]) hC hK dX10_paidMember_57 py_X10_paidBy pv_X10_paidBy lk_X10_142 hf (fun _ h => mX10_paidBy h) rfl rfl (Nat.le_of_ble_eq_true rfl) ⟨by decide, by decide⟩ ⟨Nat.le_of_ble_eq_true rfl, Nat.le_of_ble_eq_true rfl⟩ (fun x7 hf => ?_)
      refine pz_lsub hC dX10_paidMember_60 ?_
      refine pz_lstore_n hC dX10_paidMember_61 (by decide) rfl ?_
      refine pz_goto hC dX10_paidMember_62 ?_
      refine pz_sub [1, 2, 0, 3] rfl ?_
      exact tX10_paidMember_95 hC hK hk30 hf
def fX10_paidMember_30 : Nat → pz_H → Nat → Int32 → Int64 → Int32 → Option (Int64 × pz_H)
  | 0, _, _, _, _, _ => none
  | n + 1, f, l0, l1, l2, l4 => fX10_paidMember_30b (fX10_paidMember_30 n) f l0 l1 l2 l4
theorem tX10_paidMember_30 {G : pz_G} {C : pz_C} {r : (Int64 × pz_H)} (hC : pz_OK G C cX10_paidMember 5 RX10) (hK : pz_K C (some .long) 8 183 0 0) : ∀ (N : Nat) (f : pz_H) (l0 : Nat) (l1 : Int32) (l2 : Int64) (l4 : Int32), fX10_paidMember_30 N f l0 l1 l2 l4 = some r → pz_W G C 5 30 [(0, .ref l0), (1, .int l1), (2, .long l2), (4, .int l4)] [] f 0 0 (pz_Q G C (some (.long r.1)) r.2 0 0) := by
  intro N
  induction N with
  | zero => intro f l0 l1 l2 l4 hf; cases hf
  | succ N ih => intro f l0 l1 l2 l4 hf; exact tX10_paidMember_30b hC hK (fun f l0 l1 l2 l4 hf => ih f l0 l1 l2 l4 hf) hf
def fnX10_paidMember (f : pz_H) (a0 : Nat) (p1 : Int32) : Option (Int64 × pz_H) :=
  (pz_is f a0 9).bind fun _ =>
  (pz_gR f a0 9 1).bind fun v1 =>
  (pz_aI f v1 0 ((2 : Int32))).bind fun v2 =>
  (fnX10_livesIn f a0 v2 p1).bind fun x3 =>
  if x3 = 0 then some ((0 : Int64), f) else
  (fnX10_laysWholes f a0).bind fun x4 =>
  (pz_gR x4 a0 9 5).bind fun v5 =>
  (pz_aL x4 v5 1 p1).bind fun v6 =>
  fX10_paidMember_30 pz_F x4 a0 p1 v6 ((0 : Int32))
theorem mX10_paidMember {l : Launch} {G : pz_G} {f : pz_H} {a0 : Nat} {p1 : Int32} {r : (Int64 × pz_H)} (hf : fnX10_paidMember f a0 p1 = some r) : pz_Met l G yX10_paidMember cX10_paidMember 5 (some .long) 8 183 0 0 [.ref a0, .int p1] f (some (.long r.1)) r.2 ∧ pz_is f a0 9 = some () := by
  unfold fnX10_paidMember at hf
  obtain ⟨_, h0, hf⟩ := pz_bd hf
  refine ⟨pz_enter (by decide +kernel) (Nat.le_of_ble_eq_true rfl) (fun C hl hC hK hnm => ?_), h0⟩
  subst hl
  refine pz_sub (lv' := [(0, .ref a0), (1, .int p1)]) [0, 1] rfl ?_
  refine pz_aload_n hC dX10_paidMember_0 0 rfl ?_
  refine pz_aload_n hC dX10_paidMember_1 0 rfl ?_
  refine pz_getR hC dX10_paidMember_2 fa_X10_7 hf (fun v1 hf => ?_)
  refine pz_iconst (v := (2 : Int32)) hC dX10_paidMember_5 (by decide) ?_
  refine pz_iald hC dX10_paidMember_6 hf (fun v2 hf => ?_)
  refine pz_iload_n hC dX10_paidMember_7 1 rfl ?_
  refine pz_Vi (As := [.int v2, .int p1]) hC hK dX10_paidMember_8 py_X10_livesIn pv_X10_livesIn lk_X10_136 hf (fun _ h => mX10_livesIn h) rfl rfl (Nat.le_of_ble_eq_true rfl) ⟨by decide, by decide⟩ ⟨Nat.le_of_ble_eq_true rfl, Nat.le_of_ble_eq_true rfl⟩ (fun x3 hf => ?_)
  refine pz_if_ne hC dX10_paidMember_11 hf (fun _ hf => ?_) (fun _ hf => ?_)
  · refine pz_aload_n hC dX10_paidMember_16 0 rfl ?_
    refine pz_Vv (As := []) hC hK dX10_paidMember_17 py_X10_laysWholes pv_X10_laysWholes lk_X10_95 hf (fun _ h => mX10_laysWholes h) rfl rfl (Nat.le_of_ble_eq_true rfl) ⟨by decide, by decide⟩ ⟨Nat.le_of_ble_eq_true rfl, Nat.le_of_ble_eq_true rfl⟩ (fun x4 hf => ?_)
    refine pz_aload_n hC dX10_paidMember_20 0 rfl ?_
    refine pz_getR hC dX10_paidMember_21 fa_X10_19 hf (fun v5 hf => ?_)
    refine pz_iload_n hC dX10_paidMember_24 1 rfl ?_
    refine pz_lald hC dX10_paidMember_25 hf (fun v6 hf => ?_)
    refine pz_lstore_n hC dX10_paidMember_26 (by decide) rfl ?_
    refine pz_iconst (v := (0 : Int32)) hC dX10_paidMember_27 (by decide) ?_
    refine pz_istore hC dX10_paidMember_28 (by decide) rfl ?_
    refine pz_sub [2, 3, 1, 0] rfl ?_
    exact tX10_paidMember_30 hC hK _ _ _ _ _ _ hf
  · refine pz_lconst (v := 0) hC dX10_paidMember_14 (by decide) ?_
    exact pz_lretw hC hK dX10_paidMember_15 hf
def fX10_paidTo_51b (k51 : pz_H → Nat → Int32 → Int64 → Int32 → Option (Int64 × pz_H)) (f : pz_H) (l0 : Nat) (l1 : Int32) (l3 : Int64) (l5 : Int32) : Option (Int64 × pz_H) :=
  (pz_gR f l0 9 1).bind fun v1 =>
  (pz_aI f v1 0 ((4 : Int32))).bind fun v2 =>
  if v2 ≤ l5 then some (l3, f) else
  (fnX10_its f l0 l5 ((4 : Int32))).bind fun x3 =>
  (fnX10_paidBy f l0 l5 l1 x3).bind fun x4 =>
  k51 x4.2 l0 l1 ((l3 - x4.1)) ((l5 + 1))
theorem tX10_paidTo_51b {G : pz_G} {C : pz_C} {f : pz_H} {k51 : pz_H → Nat → Int32 → Int64 → Int32 → Option (Int64 × pz_H)} {l0 : Nat} {l1 : Int32} {l3 : Int64} {l5 : Int32} {r : (Int64 × pz_H)} (hC : pz_OK G C cX10_paidTo 6 RX10) (hK : pz_K C (some .long) 9 207 0 0) (hk51 : ∀ (g : pz_H) (a0 : Nat) (a1 : Int32) (a3 : Int64) (a5 : Int32), k51 g a0 a1 a3 a5 = some r → pz_W G C 6 51 [(0, .ref a0), (1, .int a1), (3, .long a3), (5, .int a5)] [] g 0 0 (pz_Q G C (some (.long r.1)) r.2 0 0)) (hf : fX10_paidTo_51b k51 f l0 l1 l3 l5 = some r) : pz_W G C 6 51 [(0, .ref l0), (1, .int l1), (3, .long l3), (5, .int l5)] [] f 0 0 (pz_Q G C (some (.long r.1)) r.2 0 0) := by
  unfold fX10_paidTo_51b at hf
  refine pz_iload hC dX10_paidTo_51 3 rfl ?_
  refine pz_aload_n hC dX10_paidTo_53 0 rfl ?_
  refine pz_getR hC dX10_paidTo_54 fa_X10_7 hf (fun v1 hf => ?_)
  refine pz_iconst (v := (4 : Int32)) hC dX10_paidTo_57 (by decide) ?_
  refine pz_iald hC dX10_paidTo_58 hf (fun v2 hf => ?_)
  refine pz_icmp_ge hC dX10_paidTo_59 hf (fun _ hf => ?_) (fun _ hf => ?_)
  · refine pz_lload_n hC dX10_paidTo_85 2 rfl ?_
    exact pz_lretw hC hK dX10_paidTo_86 hf
  · refine pz_lload_n hC dX10_paidTo_62 2 rfl ?_
    refine pz_aload_n hC dX10_paidTo_63 0 rfl ?_
    refine pz_iload hC dX10_paidTo_64 3 rfl ?_
    refine pz_iload_n hC dX10_paidTo_66 1 rfl ?_
    refine pz_aload_n hC dX10_paidTo_67 0 rfl ?_
    refine pz_iload hC dX10_paidTo_68 3 rfl ?_
    refine pz_iconst (v := (4 : Int32)) hC dX10_paidTo_70 (by decide) ?_
    refine pz_Vi (As := [.int l5, .int (4 : Int32)]) hC hK dX10_paidTo_71 py_X10_its pv_X10_its lk_X10_56 hf (fun _ h => mX10_its h) rfl rfl (Nat.le_of_ble_eq_true rfl) ⟨by decide, by decide⟩ ⟨Nat.le_of_ble_eq_true rfl, Nat.le_of_ble_eq_true rfl⟩ (fun x3 hf => ?_)
    refine pz_Vlw (As := [.int l5, .int l1, .int x3]) hC hK dX10_paidTo_74 py_X10_paidBy pv_X10_paidBy lk_X10_142 hf (fun _ h => mX10_paidBy h) rfl rfl (Nat.le_of_ble_eq_true rfl) ⟨by decide, by decide⟩ ⟨Nat.le_of_ble_eq_true rfl, Nat.le_of_ble_eq_true rfl⟩ (fun x4 hf => ?_)
    refine pz_lsub hC dX10_paidTo_77 ?_
    refine pz_lstore_n hC dX10_paidTo_78 (by decide) rfl ?_
    refine pz_iinc (v := (l5 + 1)) hC dX10_paidTo_79 3 rfl rfl (by decide) rfl ?_
    refine pz_goto hC dX10_paidTo_82 ?_
    refine pz_sub [2, 3, 1, 0] rfl ?_
    exact hk51 _ _ _ _ _ hf
def fX10_paidTo_51 : Nat → pz_H → Nat → Int32 → Int64 → Int32 → Option (Int64 × pz_H)
  | 0, _, _, _, _, _ => none
  | n + 1, f, l0, l1, l3, l5 => fX10_paidTo_51b (fX10_paidTo_51 n) f l0 l1 l3 l5
theorem tX10_paidTo_51 {G : pz_G} {C : pz_C} {r : (Int64 × pz_H)} (hC : pz_OK G C cX10_paidTo 6 RX10) (hK : pz_K C (some .long) 9 207 0 0) : ∀ (N : Nat) (f : pz_H) (l0 : Nat) (l1 : Int32) (l3 : Int64) (l5 : Int32), fX10_paidTo_51 N f l0 l1 l3 l5 = some r → pz_W G C 6 51 [(0, .ref l0), (1, .int l1), (3, .long l3), (5, .int l5)] [] f 0 0 (pz_Q G C (some (.long r.1)) r.2 0 0) := by
  intro N
  induction N with
  | zero => intro f l0 l1 l3 l5 hf; cases hf
  | succ N ih => intro f l0 l1 l3 l5 hf; exact tX10_paidTo_51b hC hK (fun f l0 l1 l3 l5 hf => ih f l0 l1 l3 l5 hf) hf
def fnX10_paidTo (f : pz_H) (a0 : Nat) (p1 : Int32) (p2 : Int32) : Option (Int64 × pz_H) :=
  (pz_is f a0 9).bind fun _ =>
  if p2 = (10 : Int32) then (fnX10_paidMember f a0 p1).bind fun x7 =>
  some (x7.1, x7.2) else
  if p2 = (11 : Int32) then (fnX10_laysWholes f a0).bind fun x1 =>
  (pz_gR x1 a0 9 5).bind fun v2 =>
  (pz_aL x1 v2 1 p1).bind fun v3 =>
  (fnX10_paidMember x1 a0 p1).bind fun x4 =>
  fX10_paidTo_51 pz_F x4.2 a0 p1 ((v3 - x4.1)) ((0 : Int32)) else
  (fnX10_its f a0 p2 ((4 : Int32))).bind fun x5 =>
  (fnX10_paidBy f a0 p2 p1 x5).bind fun x6 =>
  some (x6.1, x6.2)
theorem mX10_paidTo {l : Launch} {G : pz_G} {f : pz_H} {a0 : Nat} {p1 : Int32} {p2 : Int32} {r : (Int64 × pz_H)} (hf : fnX10_paidTo f a0 p1 p2 = some r) : pz_Met l G yX10_paidTo cX10_paidTo 6 (some .long) 9 207 0 0 [.ref a0, .int p1, .int p2] f (some (.long r.1)) r.2 ∧ pz_is f a0 9 = some () := by
  unfold fnX10_paidTo at hf
  obtain ⟨_, h0, hf⟩ := pz_bd hf
  refine ⟨pz_enter (by decide +kernel) (Nat.le_of_ble_eq_true rfl) (fun C hl hC hK hnm => ?_), h0⟩
  subst hl
  refine pz_sub (lv' := [(0, .ref a0), (1, .int p1), (2, .int p2)]) [0, 1, 2] rfl ?_
  refine pz_iload_n hC dX10_paidTo_0 2 rfl ?_
  refine pz_bipush (v := (10 : Int32)) hC dX10_paidTo_1 (by decide) ?_
  refine pz_icmp_ne hC dX10_paidTo_3 hf (fun _ hf => ?_) (fun _ hf => ?_)
  · refine pz_iload_n hC dX10_paidTo_12 2 rfl ?_
    refine pz_bipush (v := (11 : Int32)) hC dX10_paidTo_13 (by decide) ?_
    refine pz_icmp_eq hC dX10_paidTo_15 hf (fun _ hf => ?_) (fun _ hf => ?_)
    · refine pz_aload_n hC dX10_paidTo_31 0 rfl ?_
      refine pz_Vv (As := []) hC hK dX10_paidTo_32 py_X10_laysWholes pv_X10_laysWholes lk_X10_95 hf (fun _ h => mX10_laysWholes h) rfl rfl (Nat.le_of_ble_eq_true rfl) ⟨by decide, by decide⟩ ⟨Nat.le_of_ble_eq_true rfl, Nat.le_of_ble_eq_true rfl⟩ (fun x1 hf => ?_)
      refine pz_aload_n hC dX10_paidTo_35 0 rfl ?_
      refine pz_getR hC dX10_paidTo_36 fa_X10_19 hf (fun v2 hf => ?_)
      refine pz_iload_n hC dX10_paidTo_39 1 rfl ?_
      refine pz_lald hC dX10_paidTo_40 hf (fun v3 hf => ?_)
      refine pz_aload_n hC dX10_paidTo_41 0 rfl ?_
      refine pz_iload_n hC dX10_paidTo_42 1 rfl ?_
      refine pz_Vlw (As := [.int p1]) hC hK dX10_paidTo_43 py_X10_paidMember pv_X10_paidMember lk_X10_146 hf (fun _ h => mX10_paidMember h) rfl rfl (Nat.le_of_ble_eq_true rfl) ⟨by decide, by decide⟩ ⟨Nat.le_of_ble_eq_true rfl, Nat.le_of_ble_eq_true rfl⟩ (fun x4 hf => ?_)
      refine pz_lsub hC dX10_paidTo_46 ?_
      refine pz_lstore_n hC dX10_paidTo_47 (by decide) rfl ?_
      refine pz_iconst (v := (0 : Int32)) hC dX10_paidTo_48 (by decide) ?_
      refine pz_istore hC dX10_paidTo_49 (by decide) rfl ?_
      refine pz_sub [2, 3, 1, 0] rfl ?_
      exact tX10_paidTo_51 hC hK _ _ _ _ _ _ hf
    · refine pz_aload_n hC dX10_paidTo_18 0 rfl ?_
      refine pz_iload_n hC dX10_paidTo_19 2 rfl ?_
      refine pz_iload_n hC dX10_paidTo_20 1 rfl ?_
      refine pz_aload_n hC dX10_paidTo_21 0 rfl ?_
      refine pz_iload_n hC dX10_paidTo_22 2 rfl ?_
      refine pz_iconst (v := (4 : Int32)) hC dX10_paidTo_23 (by decide) ?_
      refine pz_Vi (As := [.int p2, .int (4 : Int32)]) hC hK dX10_paidTo_24 py_X10_its pv_X10_its lk_X10_56 hf (fun _ h => mX10_its h) rfl rfl (Nat.le_of_ble_eq_true rfl) ⟨by decide, by decide⟩ ⟨Nat.le_of_ble_eq_true rfl, Nat.le_of_ble_eq_true rfl⟩ (fun x5 hf => ?_)
      refine pz_Vlw (As := [.int p2, .int p1, .int x5]) hC hK dX10_paidTo_27 py_X10_paidBy pv_X10_paidBy lk_X10_142 hf (fun _ h => mX10_paidBy h) rfl rfl (Nat.le_of_ble_eq_true rfl) ⟨by decide, by decide⟩ ⟨Nat.le_of_ble_eq_true rfl, Nat.le_of_ble_eq_true rfl⟩ (fun x6 hf => ?_)
      exact pz_lretw hC hK dX10_paidTo_30 hf
  · refine pz_aload_n hC dX10_paidTo_6 0 rfl ?_
    refine pz_iload_n hC dX10_paidTo_7 1 rfl ?_
    refine pz_Vlw (As := [.int p1]) hC hK dX10_paidTo_8 py_X10_paidMember pv_X10_paidMember lk_X10_146 hf (fun _ h => mX10_paidMember h) rfl rfl (Nat.le_of_ble_eq_true rfl) ⟨by decide, by decide⟩ ⟨Nat.le_of_ble_eq_true rfl, Nat.le_of_ble_eq_true rfl⟩ (fun x7 hf => ?_)
    exact pz_lretw hC hK dX10_paidTo_11 hf
def fX10_isWho_19 (f : pz_H) (s0 : Int32) : Option Int32 :=
  pz_b s0
theorem tX10_isWho_19 {G : pz_G} {C : pz_C} {f : pz_H} {s0 : Int32} {r : Int32} (hC : pz_OK G C cX10_isWho 2 RX10) (hK : pz_K C (some .boolean) 2 43 0 0) (hf : fX10_isWho_19 f s0 = some r) : pz_W G C 2 19 [] [.int s0] f 0 0 (pz_Q G C (some (.int r)) f 0 0) := by
  unfold fX10_isWho_19 at hf
  exact pz_zret hC hK dX10_isWho_19 hf
def fX10_isWho_14 (f : pz_H) : Option Int32 :=
  fX10_isWho_19 f ((1 : Int32))
theorem tX10_isWho_14 {G : pz_G} {C : pz_C} {f : pz_H} {r : Int32} (hC : pz_OK G C cX10_isWho 2 RX10) (hK : pz_K C (some .boolean) 2 43 0 0) (hf : fX10_isWho_14 f = some r) : pz_W G C 2 14 [] [] f 0 0 (pz_Q G C (some (.int r)) f 0 0) := by
  unfold fX10_isWho_14 at hf
  refine pz_iconst (v := (1 : Int32)) hC dX10_isWho_14 (by decide) ?_
  refine pz_goto hC dX10_isWho_15 ?_
  exact tX10_isWho_19 hC hK hf
def fnX10_isWho (f : pz_H) (a0 : Nat) (p1 : Int32) : Option Int32 :=
  (pz_is f a0 9).bind fun _ =>
  if p1 = (10 : Int32) then fX10_isWho_14 f else
  (fnX10_isSpouse f a0 p1).bind fun x1 =>
  if x1 = 0 then fX10_isWho_19 f ((0 : Int32)) else
  fX10_isWho_14 f
theorem mX10_isWho {l : Launch} {G : pz_G} {f : pz_H} {a0 : Nat} {p1 : Int32} {r : Int32} (hf : fnX10_isWho f a0 p1 = some r) : pz_Met l G yX10_isWho cX10_isWho 2 (some .boolean) 2 43 0 0 [.ref a0, .int p1] f (some (.int r)) f ∧ pz_is f a0 9 = some () := by
  unfold fnX10_isWho at hf
  obtain ⟨_, h0, hf⟩ := pz_bd hf
  refine ⟨pz_enter (by decide +kernel) (Nat.le_of_ble_eq_true rfl) (fun C hl hC hK hnm => ?_), h0⟩
  subst hl
  refine pz_sub (lv' := [(0, .ref a0), (1, .int p1)]) [0, 1] rfl ?_
  refine pz_iload_n hC dX10_isWho_0 1 rfl ?_
  refine pz_bipush (v := (10 : Int32)) hC dX10_isWho_1 (by decide) ?_
  refine pz_icmp_eq hC dX10_isWho_3 hf (fun _ hf => ?_) (fun _ hf => ?_)
  · refine pz_sub [] rfl ?_
    exact tX10_isWho_14 hC hK hf
  · refine pz_aload_n hC dX10_isWho_6 0 rfl ?_
    refine pz_iload_n hC dX10_isWho_7 1 rfl ?_
    refine pz_Vi (As := [.int p1]) hC hK dX10_isWho_8 py_X10_isSpouse pv_X10_isSpouse lk_X10_149 hf (fun _ h => mX10_isSpouse h) rfl rfl (Nat.le_of_ble_eq_true rfl) ⟨by decide, by decide⟩ ⟨Nat.le_of_ble_eq_true rfl, Nat.le_of_ble_eq_true rfl⟩ (fun x1 hf => ?_)
    refine pz_if_eq hC dX10_isWho_11 hf (fun _ hf => ?_) (fun _ hf => ?_)
    · refine pz_iconst (v := (0 : Int32)) hC dX10_isWho_18 (by decide) ?_
      refine pz_sub [] rfl ?_
      exact tX10_isWho_19 hC hK hf
    · refine pz_sub [] rfl ?_
      exact tX10_isWho_14 hC hK hf
def fX10_sumOf_6b (k6 : pz_H → Nat → Int32 → Int32 → Int64 → Int32 → Option (Int64 × pz_H)) (f : pz_H) (l0 : Nat) (l1 : Int32) (l3 : Int32) (l4 : Int64) (l6 : Int32) : Option (Int64 × pz_H) :=
  if l3 ≤ l6 then some (l4, f) else
  (fnX10_paidTo f l0 l6 l1).bind fun x1 =>
  k6 x1.2 l0 l1 l3 ((l4 + x1.1)) ((l6 + 1))
theorem tX10_sumOf_6b {G : pz_G} {C : pz_C} {f : pz_H} {k6 : pz_H → Nat → Int32 → Int32 → Int64 → Int32 → Option (Int64 × pz_H)} {l0 : Nat} {l1 : Int32} {l3 : Int32} {l4 : Int64} {l6 : Int32} {r : (Int64 × pz_H)} (hC : pz_OK G C cX10_sumOf 7 RX10) (hK : pz_K C (some .long) 10 232 0 0) (hk6 : ∀ (g : pz_H) (a0 : Nat) (a1 : Int32) (a3 : Int32) (a4 : Int64) (a6 : Int32), k6 g a0 a1 a3 a4 a6 = some r → pz_W G C 7 6 [(0, .ref a0), (1, .int a1), (3, .int a3), (4, .long a4), (6, .int a6)] [] g 0 0 (pz_Q G C (some (.long r.1)) r.2 0 0)) (hf : fX10_sumOf_6b k6 f l0 l1 l3 l4 l6 = some r) : pz_W G C 7 6 [(0, .ref l0), (1, .int l1), (3, .int l3), (4, .long l4), (6, .int l6)] [] f 0 0 (pz_Q G C (some (.long r.1)) r.2 0 0) := by
  unfold fX10_sumOf_6b at hf
  refine pz_iload hC dX10_sumOf_6 4 rfl ?_
  refine pz_iload_n hC dX10_sumOf_8 2 rfl ?_
  refine pz_icmp_ge hC dX10_sumOf_9 hf (fun _ hf => ?_) (fun _ hf => ?_)
  · refine pz_lload hC dX10_sumOf_30 3 rfl ?_
    exact pz_lretw hC hK dX10_sumOf_32 hf
  · refine pz_lload hC dX10_sumOf_12 3 rfl ?_
    refine pz_aload_n hC dX10_sumOf_14 0 rfl ?_
    refine pz_iload hC dX10_sumOf_15 4 rfl ?_
    refine pz_iload_n hC dX10_sumOf_17 1 rfl ?_
    refine pz_Vlw (As := [.int l6, .int l1]) hC hK dX10_sumOf_18 py_X10_paidTo pv_X10_paidTo lk_X10_152 hf (fun _ h => mX10_paidTo h) rfl rfl (Nat.le_of_ble_eq_true rfl) ⟨by decide, by decide⟩ ⟨Nat.le_of_ble_eq_true rfl, Nat.le_of_ble_eq_true rfl⟩ (fun x1 hf => ?_)
    refine pz_ladd hC dX10_sumOf_21 ?_
    refine pz_lstore hC dX10_sumOf_22 (by decide) rfl ?_
    refine pz_iinc (v := (l6 + 1)) hC dX10_sumOf_24 4 rfl rfl (by decide) rfl ?_
    refine pz_goto hC dX10_sumOf_27 ?_
    refine pz_sub [2, 3, 4, 1, 0] rfl ?_
    exact hk6 _ _ _ _ _ _ hf
def fX10_sumOf_6 : Nat → pz_H → Nat → Int32 → Int32 → Int64 → Int32 → Option (Int64 × pz_H)
  | 0, _, _, _, _, _, _ => none
  | n + 1, f, l0, l1, l3, l4, l6 => fX10_sumOf_6b (fX10_sumOf_6 n) f l0 l1 l3 l4 l6
theorem tX10_sumOf_6 {G : pz_G} {C : pz_C} {r : (Int64 × pz_H)} (hC : pz_OK G C cX10_sumOf 7 RX10) (hK : pz_K C (some .long) 10 232 0 0) : ∀ (N : Nat) (f : pz_H) (l0 : Nat) (l1 : Int32) (l3 : Int32) (l4 : Int64) (l6 : Int32), fX10_sumOf_6 N f l0 l1 l3 l4 l6 = some r → pz_W G C 7 6 [(0, .ref l0), (1, .int l1), (3, .int l3), (4, .long l4), (6, .int l6)] [] f 0 0 (pz_Q G C (some (.long r.1)) r.2 0 0) := by
  intro N
  induction N with
  | zero => intro f l0 l1 l3 l4 l6 hf; cases hf
  | succ N ih => intro f l0 l1 l3 l4 l6 hf; exact tX10_sumOf_6b hC hK (fun f l0 l1 l3 l4 l6 hf => ih f l0 l1 l3 l4 l6 hf) hf
def fnX10_sumOf (f : pz_H) (a0 : Nat) (p1 : Int32) (p2 : Int32) (p3 : Int32) : Option (Int64 × pz_H) :=
  (pz_is f a0 9).bind fun _ =>
  fX10_sumOf_6 pz_F f a0 p1 p3 ((0 : Int64)) p2
theorem mX10_sumOf {l : Launch} {G : pz_G} {f : pz_H} {a0 : Nat} {p1 : Int32} {p2 : Int32} {p3 : Int32} {r : (Int64 × pz_H)} (hf : fnX10_sumOf f a0 p1 p2 p3 = some r) : pz_Met l G yX10_sumOf cX10_sumOf 7 (some .long) 10 232 0 0 [.ref a0, .int p1, .int p2, .int p3] f (some (.long r.1)) r.2 ∧ pz_is f a0 9 = some () := by
  unfold fnX10_sumOf at hf
  obtain ⟨_, h0, hf⟩ := pz_bd hf
  refine ⟨pz_enter (by decide +kernel) (Nat.le_of_ble_eq_true rfl) (fun C hl hC hK hnm => ?_), h0⟩
  subst hl
  refine pz_sub (lv' := [(0, .ref a0), (1, .int p1), (2, .int p2), (3, .int p3)]) [0, 1, 2, 3] rfl ?_
  refine pz_lconst (v := 0) hC dX10_sumOf_0 (by decide) ?_
  refine pz_lstore hC dX10_sumOf_1 (by decide) rfl ?_
  refine pz_iload_n hC dX10_sumOf_3 3 rfl ?_
  refine pz_istore hC dX10_sumOf_4 (by decide) rfl ?_
  refine pz_sub [2, 3, 5, 1, 0] rfl ?_
  exact tX10_sumOf_6 hC hK _ _ _ _ _ _ _ hf
def fX10_paid_26 (f : pz_H) : Option (Int64 × pz_H) :=
  some (((-1000000000000000) : Int64), f)
theorem tX10_paid_26 {G : pz_G} {C : pz_C} {f : pz_H} {r : (Int64 × pz_H)} (hC : pz_OK G C cX10_paid 3 RX10) (hK : pz_K C (some .long) 10 232 0 0) (hf : fX10_paid_26 f = some r) : pz_W G C 3 26 [] [] f 0 0 (pz_Q G C (some (.long r.1)) r.2 0 0) := by
  unfold fX10_paid_26 at hf
  refine pz_ldc2 hC dX10_paid_26 ck_X10_161 ?_
  exact pz_lretw hC hK dX10_paid_29 hf
def fX10_paid_30 (f : pz_H) (l0 : Nat) (l1 : Int32) (l2 : Int32) : Option (Int64 × pz_H) :=
  (fnX10_laysOwns f l0).bind fun x1 =>
  (fnX10_paidTo x1 l0 l1 l2).bind fun x2 =>
  some (x2.1, x2.2)
theorem tX10_paid_30 {G : pz_G} {C : pz_C} {f : pz_H} {l0 : Nat} {l1 : Int32} {l2 : Int32} {r : (Int64 × pz_H)} (hC : pz_OK G C cX10_paid 3 RX10) (hK : pz_K C (some .long) 10 232 0 0) (hf : fX10_paid_30 f l0 l1 l2 = some r) : pz_W G C 3 30 [(0, .ref l0), (1, .int l1), (2, .int l2)] [] f 0 0 (pz_Q G C (some (.long r.1)) r.2 0 0) := by
  unfold fX10_paid_30 at hf
  refine pz_aload_n hC dX10_paid_30 0 rfl ?_
  refine pz_Vv (As := []) hC hK dX10_paid_31 py_X10_laysOwns pv_X10_laysOwns lk_X10_163 hf (fun _ h => mX10_laysOwns h) rfl rfl (Nat.le_of_ble_eq_true rfl) ⟨by decide, by decide⟩ ⟨Nat.le_of_ble_eq_true rfl, Nat.le_of_ble_eq_true rfl⟩ (fun x1 hf => ?_)
  refine pz_aload_n hC dX10_paid_34 0 rfl ?_
  refine pz_iload_n hC dX10_paid_35 1 rfl ?_
  refine pz_iload_n hC dX10_paid_36 2 rfl ?_
  refine pz_Vlw (As := [.int l1, .int l2]) hC hK dX10_paid_37 py_X10_paidTo pv_X10_paidTo lk_X10_152 hf (fun _ h => mX10_paidTo h) rfl rfl (Nat.le_of_ble_eq_true rfl) ⟨by decide, by decide⟩ ⟨Nat.le_of_ble_eq_true rfl, Nat.le_of_ble_eq_true rfl⟩ (fun x2 hf => ?_)
  exact pz_lretw hC hK dX10_paid_40 hf
def fnX10_paid (f : pz_H) (a0 : Nat) (p1 : Int32) (p2 : Int32) : Option (Int64 × pz_H) :=
  (pz_is f a0 9).bind fun _ =>
  (pz_sV f a0 9 0 (.int (0 : Int32))).bind fun f1 =>
  (fnX10_isMonth p1).bind fun x2 =>
  if x2 = 0 then fX10_paid_26 f1 else
  (fnX10_isWho f1 a0 p2).bind fun x3 =>
  if x3 = 0 then if p2 = (11 : Int32) then fX10_paid_30 f1 a0 p1 p2 else
  fX10_paid_26 f1 else
  fX10_paid_30 f1 a0 p1 p2
theorem mX10_paid {l : Launch} {G : pz_G} {f : pz_H} {a0 : Nat} {p1 : Int32} {p2 : Int32} {r : (Int64 × pz_H)} (hf : fnX10_paid f a0 p1 p2 = some r) : pz_Met l G yX10_paid cX10_paid 3 (some .long) 10 232 0 0 [.ref a0, .int p1, .int p2] f (some (.long r.1)) r.2 ∧ pz_is f a0 9 = some () := by
  unfold fnX10_paid at hf
  obtain ⟨_, h0, hf⟩ := pz_bd hf
  refine ⟨pz_enter (by decide +kernel) (Nat.le_of_ble_eq_true rfl) (fun C hl hC hK hnm => ?_), h0⟩
  subst hl
  refine pz_sub (lv' := [(0, .ref a0), (1, .int p1), (2, .int p2)]) [0, 1, 2] rfl ?_
  refine pz_aload_n hC dX10_paid_0 0 rfl ?_
  refine pz_iconst (v := (0 : Int32)) hC dX10_paid_1 (by decide) ?_
  refine pz_putV hC dX10_paid_2 fp_X10_48 rfl rfl hf (fun f1 hf => ?_)
  refine pz_iload_n hC dX10_paid_5 1 rfl ?_
  refine pz_Si (As := [.int p1]) hC hK dX10_paid_6 py_X10_isMonth ps_X10_isMonth lk_X10_155 hf (fun _ h => mX10_isMonth h) rfl rfl (Nat.le_of_ble_eq_true rfl) ⟨by decide, by decide⟩ ⟨by decide, by decide⟩ (fun x2 hf => ?_)
  refine pz_if_eq hC dX10_paid_9 hf (fun _ hf => ?_) (fun _ hf => ?_)
  · refine pz_sub [] rfl ?_
    exact tX10_paid_26 hC hK hf
  · refine pz_aload_n hC dX10_paid_12 0 rfl ?_
    refine pz_iload_n hC dX10_paid_13 2 rfl ?_
    refine pz_Vi (As := [.int p2]) hC hK dX10_paid_14 py_X10_isWho pv_X10_isWho lk_X10_158 hf (fun _ h => mX10_isWho h) rfl rfl (Nat.le_of_ble_eq_true rfl) ⟨by decide, by decide⟩ ⟨Nat.le_of_ble_eq_true rfl, Nat.le_of_ble_eq_true rfl⟩ (fun x3 hf => ?_)
    refine pz_if_ne hC dX10_paid_17 hf (fun _ hf => ?_) (fun _ hf => ?_)
    · exact tX10_paid_30 hC hK hf
    · refine pz_iload_n hC dX10_paid_20 2 rfl ?_
      refine pz_bipush (v := (11 : Int32)) hC dX10_paid_21 (by decide) ?_
      refine pz_icmp_eq hC dX10_paid_23 hf (fun _ hf => ?_) (fun _ hf => ?_)
      · exact tX10_paid_30 hC hK hf
      · refine pz_sub [] rfl ?_
        exact tX10_paid_26 hC hK hf
def fX10_sum_38 (f : pz_H) : Option (Int64 × pz_H) :=
  some (((-1000000000000000) : Int64), f)
theorem tX10_sum_38 {G : pz_G} {C : pz_C} {f : pz_H} {r : (Int64 × pz_H)} (hC : pz_OK G C cX10_sum 4 RX10) (hK : pz_K C (some .long) 11 258 0 0) (hf : fX10_sum_38 f = some r) : pz_W G C 4 38 [] [] f 0 0 (pz_Q G C (some (.long r.1)) r.2 0 0) := by
  unfold fX10_sum_38 at hf
  refine pz_ldc2 hC dX10_sum_38 ck_X10_161 ?_
  exact pz_lretw hC hK dX10_sum_41 hf
def fX10_sum_19 (f : pz_H) (l0 : Nat) (l1 : Int32) (l2 : Int32) (l3 : Int32) : Option (Int64 × pz_H) :=
  (fnX10_isMonth l2).bind fun x1 =>
  if x1 = 0 then fX10_sum_38 f else
  (fnX10_isMonth l3).bind fun x2 =>
  if x2 = 0 then fX10_sum_38 f else
  if l2 ≤ l3 then (fnX10_laysOwns f l0).bind fun x3 =>
  (fnX10_sumOf x3 l0 l1 l2 l3).bind fun x4 =>
  some (x4.1, x4.2) else
  fX10_sum_38 f
theorem tX10_sum_19 {G : pz_G} {C : pz_C} {f : pz_H} {l0 : Nat} {l1 : Int32} {l2 : Int32} {l3 : Int32} {r : (Int64 × pz_H)} (hC : pz_OK G C cX10_sum 4 RX10) (hK : pz_K C (some .long) 11 258 0 0) (hf : fX10_sum_19 f l0 l1 l2 l3 = some r) : pz_W G C 4 19 [(0, .ref l0), (1, .int l1), (2, .int l2), (3, .int l3)] [] f 0 0 (pz_Q G C (some (.long r.1)) r.2 0 0) := by
  unfold fX10_sum_19 at hf
  refine pz_iload_n hC dX10_sum_19 2 rfl ?_
  refine pz_Si (As := [.int l2]) hC hK dX10_sum_20 py_X10_isMonth ps_X10_isMonth lk_X10_155 hf (fun _ h => mX10_isMonth h) rfl rfl (Nat.le_of_ble_eq_true rfl) ⟨by decide, by decide⟩ ⟨by decide, by decide⟩ (fun x1 hf => ?_)
  refine pz_if_eq hC dX10_sum_23 hf (fun _ hf => ?_) (fun _ hf => ?_)
  · refine pz_sub [] rfl ?_
    exact tX10_sum_38 hC hK hf
  · refine pz_iload_n hC dX10_sum_26 3 rfl ?_
    refine pz_Si (As := [.int l3]) hC hK dX10_sum_27 py_X10_isMonth ps_X10_isMonth lk_X10_155 hf (fun _ h => mX10_isMonth h) rfl rfl (Nat.le_of_ble_eq_true rfl) ⟨by decide, by decide⟩ ⟨by decide, by decide⟩ (fun x2 hf => ?_)
    refine pz_if_eq hC dX10_sum_30 hf (fun _ hf => ?_) (fun _ hf => ?_)
    · refine pz_sub [] rfl ?_
      exact tX10_sum_38 hC hK hf
    · refine pz_iload_n hC dX10_sum_33 2 rfl ?_
      refine pz_iload_n hC dX10_sum_34 3 rfl ?_
      refine pz_icmp_le hC dX10_sum_35 hf (fun _ hf => ?_) (fun _ hf => ?_)
      · refine pz_aload_n hC dX10_sum_42 0 rfl ?_
        refine pz_Vv (As := []) hC hK dX10_sum_43 py_X10_laysOwns pv_X10_laysOwns lk_X10_163 hf (fun _ h => mX10_laysOwns h) rfl rfl (Nat.le_of_ble_eq_true rfl) ⟨by decide, by decide⟩ ⟨Nat.le_of_ble_eq_true rfl, Nat.le_of_ble_eq_true rfl⟩ (fun x3 hf => ?_)
        refine pz_aload_n hC dX10_sum_46 0 rfl ?_
        refine pz_iload_n hC dX10_sum_47 1 rfl ?_
        refine pz_iload_n hC dX10_sum_48 2 rfl ?_
        refine pz_iload_n hC dX10_sum_49 3 rfl ?_
        refine pz_Vlw (As := [.int l1, .int l2, .int l3]) hC hK dX10_sum_50 py_X10_sumOf pv_X10_sumOf lk_X10_166 hf (fun _ h => mX10_sumOf h) rfl rfl (Nat.le_of_ble_eq_true rfl) ⟨by decide, by decide⟩ ⟨Nat.le_of_ble_eq_true rfl, Nat.le_of_ble_eq_true rfl⟩ (fun x4 hf => ?_)
        exact pz_lretw hC hK dX10_sum_53 hf
      · refine pz_sub [] rfl ?_
        exact tX10_sum_38 hC hK hf
def fnX10_sum (f : pz_H) (a0 : Nat) (p1 : Int32) (p2 : Int32) (p3 : Int32) : Option (Int64 × pz_H) :=
  (pz_is f a0 9).bind fun _ =>
  (pz_sV f a0 9 0 (.int (0 : Int32))).bind fun f1 =>
  (fnX10_isWho f1 a0 p1).bind fun x2 =>
  if x2 = 0 then if p1 = (11 : Int32) then fX10_sum_19 f1 a0 p1 p2 p3 else
  fX10_sum_38 f1 else
  fX10_sum_19 f1 a0 p1 p2 p3
theorem mX10_sum {l : Launch} {G : pz_G} {f : pz_H} {a0 : Nat} {p1 : Int32} {p2 : Int32} {p3 : Int32} {r : (Int64 × pz_H)} (hf : fnX10_sum f a0 p1 p2 p3 = some r) : pz_Met l G yX10_sum cX10_sum 4 (some .long) 11 258 0 0 [.ref a0, .int p1, .int p2, .int p3] f (some (.long r.1)) r.2 ∧ pz_is f a0 9 = some () := by
  unfold fnX10_sum at hf
  obtain ⟨_, h0, hf⟩ := pz_bd hf
  refine ⟨pz_enter (by decide +kernel) (Nat.le_of_ble_eq_true rfl) (fun C hl hC hK hnm => ?_), h0⟩
  subst hl
  refine pz_sub (lv' := [(0, .ref a0), (1, .int p1), (2, .int p2), (3, .int p3)]) [0, 1, 2, 3] rfl ?_
  refine pz_aload_n hC dX10_sum_0 0 rfl ?_
  refine pz_iconst (v := (0 : Int32)) hC dX10_sum_1 (by decide) ?_
  refine pz_putV hC dX10_sum_2 fp_X10_48 rfl rfl hf (fun f1 hf => ?_)
  refine pz_aload_n hC dX10_sum_5 0 rfl ?_
  refine pz_iload_n hC dX10_sum_6 1 rfl ?_
  refine pz_Vi (As := [.int p1]) hC hK dX10_sum_7 py_X10_isWho pv_X10_isWho lk_X10_158 hf (fun _ h => mX10_isWho h) rfl rfl (Nat.le_of_ble_eq_true rfl) ⟨by decide, by decide⟩ ⟨Nat.le_of_ble_eq_true rfl, Nat.le_of_ble_eq_true rfl⟩ (fun x2 hf => ?_)
  refine pz_if_ne hC dX10_sum_10 hf (fun _ hf => ?_) (fun _ hf => ?_)
  · exact tX10_sum_19 hC hK hf
  · refine pz_iload_n hC dX10_sum_13 1 rfl ?_
    refine pz_bipush (v := (11 : Int32)) hC dX10_sum_14 (by decide) ?_
    refine pz_icmp_ne hC dX10_sum_16 hf (fun _ hf => ?_) (fun _ hf => ?_)
    · refine pz_sub [] rfl ?_
      exact tX10_sum_38 hC hK hf
    · exact tX10_sum_19 hC hK hf
def fX10_richest_81 (k33 : pz_H → Nat → Int32 → Int32 → Int64 → Int32 → Option (Int32 × pz_H)) (f : pz_H) (l0 : Nat) (l1 : Int32) (l2 : Int32) (l5 : Int32) (s0 : Int64) : Option (Int32 × pz_H) :=
  k33 f l0 l1 l2 s0 ((l5 + 1))
theorem tX10_richest_81 {G : pz_G} {C : pz_C} {f : pz_H} {k33 : pz_H → Nat → Int32 → Int32 → Int64 → Int32 → Option (Int32 × pz_H)} {l0 : Nat} {l1 : Int32} {l2 : Int32} {l5 : Int32} {s0 : Int64} {r : (Int32 × pz_H)} (hC : pz_OK G C cX10_richest 8 RX10) (hK : pz_K C (some .int) 11 258 0 0) (hk33 : ∀ (g : pz_H) (a0 : Nat) (a1 : Int32) (a2 : Int32) (a3 : Int64) (a5 : Int32), k33 g a0 a1 a2 a3 a5 = some r → pz_W G C 8 33 [(0, .ref a0), (1, .int a1), (2, .int a2), (3, .long a3), (5, .int a5)] [] g 0 0 (pz_Q G C (some (.int r.1)) r.2 0 0)) (hf : fX10_richest_81 k33 f l0 l1 l2 l5 s0 = some r) : pz_W G C 8 81 [(0, .ref l0), (1, .int l1), (2, .int l2), (5, .int l5)] [.long s0] f 0 0 (pz_Q G C (some (.int r.1)) r.2 0 0) := by
  unfold fX10_richest_81 at hf
  refine pz_lstore_n hC dX10_richest_81 (by decide) rfl ?_
  refine pz_iinc (v := (l5 + 1)) hC dX10_richest_82 4 rfl rfl (by decide) rfl ?_
  refine pz_goto hC dX10_richest_85 ?_
  refine pz_sub [2, 3, 4, 1, 0] rfl ?_
  exact hk33 _ _ _ _ _ _ hf
def fX10_richest_67 (k33 : pz_H → Nat → Int32 → Int32 → Int64 → Int32 → Option (Int32 × pz_H)) (f : pz_H) (l0 : Nat) (l1 : Int32) (l3 : Int64) (l5 : Int32) (l6 : Int64) (s0 : Int32) : Option (Int32 × pz_H) :=
  if (lg_cmp l6 l3) ≤ 0 then fX10_richest_81 k33 f l0 l1 s0 l5 l3 else
  fX10_richest_81 k33 f l0 l1 s0 l5 l6
theorem tX10_richest_67 {G : pz_G} {C : pz_C} {f : pz_H} {k33 : pz_H → Nat → Int32 → Int32 → Int64 → Int32 → Option (Int32 × pz_H)} {l0 : Nat} {l1 : Int32} {l3 : Int64} {l5 : Int32} {l6 : Int64} {s0 : Int32} {r : (Int32 × pz_H)} (hC : pz_OK G C cX10_richest 8 RX10) (hK : pz_K C (some .int) 11 258 0 0) (hk33 : ∀ (g : pz_H) (a0 : Nat) (a1 : Int32) (a2 : Int32) (a3 : Int64) (a5 : Int32), k33 g a0 a1 a2 a3 a5 = some r → pz_W G C 8 33 [(0, .ref a0), (1, .int a1), (2, .int a2), (3, .long a3), (5, .int a5)] [] g 0 0 (pz_Q G C (some (.int r.1)) r.2 0 0)) (hf : fX10_richest_67 k33 f l0 l1 l3 l5 l6 s0 = some r) : pz_W G C 8 67 [(0, .ref l0), (1, .int l1), (3, .long l3), (5, .int l5), (6, .long l6)] [.int s0] f 0 0 (pz_Q G C (some (.int r.1)) r.2 0 0) := by
  unfold fX10_richest_67 at hf
  refine pz_istore_n hC dX10_richest_67 (by decide) rfl ?_
  refine pz_lload hC dX10_richest_68 5 rfl ?_
  refine pz_lload_n hC dX10_richest_70 3 rfl ?_
  refine pz_lcmp hC dX10_richest_71 ?_
  refine pz_if_le hC dX10_richest_72 hf (fun _ hf => ?_) (fun _ hf => ?_)
  · refine pz_lload_n hC dX10_richest_80 3 rfl ?_
    refine pz_sub [1, 2, 0, 4] rfl ?_
    exact tX10_richest_81 hC hK hk33 hf
  · refine pz_lload hC dX10_richest_75 5 rfl ?_
    refine pz_goto hC dX10_richest_77 ?_
    refine pz_sub [1, 2, 0, 4] rfl ?_
    exact tX10_richest_81 hC hK hk33 hf
def fX10_richest_33b (k33 : pz_H → Nat → Int32 → Int32 → Int64 → Int32 → Option (Int32 × pz_H)) (f : pz_H) (l0 : Nat) (l1 : Int32) (l2 : Int32) (l3 : Int64) (l5 : Int32) : Option (Int32 × pz_H) :=
  (pz_gR f l0 9 1).bind fun v1 =>
  (pz_aI f v1 0 ((4 : Int32))).bind fun v2 =>
  if v2 ≤ l5 then some (l2, f) else
  (fnX10_sumOf f l0 l5 ((0 : Int32)) l1).bind fun x3 =>
  if (lg_cmp x3.1 l3) ≤ 0 then fX10_richest_67 k33 x3.2 l0 l1 l3 l5 x3.1 l2 else
  fX10_richest_67 k33 x3.2 l0 l1 l3 l5 x3.1 l5
theorem tX10_richest_33b {G : pz_G} {C : pz_C} {f : pz_H} {k33 : pz_H → Nat → Int32 → Int32 → Int64 → Int32 → Option (Int32 × pz_H)} {l0 : Nat} {l1 : Int32} {l2 : Int32} {l3 : Int64} {l5 : Int32} {r : (Int32 × pz_H)} (hC : pz_OK G C cX10_richest 8 RX10) (hK : pz_K C (some .int) 11 258 0 0) (hk33 : ∀ (g : pz_H) (a0 : Nat) (a1 : Int32) (a2 : Int32) (a3 : Int64) (a5 : Int32), k33 g a0 a1 a2 a3 a5 = some r → pz_W G C 8 33 [(0, .ref a0), (1, .int a1), (2, .int a2), (3, .long a3), (5, .int a5)] [] g 0 0 (pz_Q G C (some (.int r.1)) r.2 0 0)) (hf : fX10_richest_33b k33 f l0 l1 l2 l3 l5 = some r) : pz_W G C 8 33 [(0, .ref l0), (1, .int l1), (2, .int l2), (3, .long l3), (5, .int l5)] [] f 0 0 (pz_Q G C (some (.int r.1)) r.2 0 0) := by
  unfold fX10_richest_33b at hf
  refine pz_iload hC dX10_richest_33 4 rfl ?_
  refine pz_aload_n hC dX10_richest_35 0 rfl ?_
  refine pz_getR hC dX10_richest_36 fa_X10_7 hf (fun v1 hf => ?_)
  refine pz_iconst (v := (4 : Int32)) hC dX10_richest_39 (by decide) ?_
  refine pz_iald hC dX10_richest_40 hf (fun v2 hf => ?_)
  refine pz_icmp_ge hC dX10_richest_41 hf (fun _ hf => ?_) (fun _ hf => ?_)
  · refine pz_iload_n hC dX10_richest_88 2 rfl ?_
    exact pz_iretw hC hK dX10_richest_89 hf
  · refine pz_aload_n hC dX10_richest_44 0 rfl ?_
    refine pz_iload hC dX10_richest_45 4 rfl ?_
    refine pz_iconst (v := (0 : Int32)) hC dX10_richest_47 (by decide) ?_
    refine pz_iload_n hC dX10_richest_48 1 rfl ?_
    refine pz_Vlw (As := [.int l5, .int (0 : Int32), .int l1]) hC hK dX10_richest_49 py_X10_sumOf pv_X10_sumOf lk_X10_166 hf (fun _ h => mX10_sumOf h) rfl rfl (Nat.le_of_ble_eq_true rfl) ⟨by decide, by decide⟩ ⟨Nat.le_of_ble_eq_true rfl, Nat.le_of_ble_eq_true rfl⟩ (fun x3 hf => ?_)
    refine pz_lstore hC dX10_richest_52 (by decide) rfl ?_
    refine pz_lload hC dX10_richest_54 0 rfl ?_
    refine pz_lload_n hC dX10_richest_56 4 rfl ?_
    refine pz_lcmp hC dX10_richest_57 ?_
    refine pz_if_le hC dX10_richest_58 hf (fun _ hf => ?_) (fun _ hf => ?_)
    · refine pz_iload_n hC dX10_richest_66 3 rfl ?_
      refine pz_sub [1, 2, 4, 5, 0] rfl ?_
      exact tX10_richest_67 hC hK hk33 hf
    · refine pz_iload hC dX10_richest_61 5 rfl ?_
      refine pz_goto hC dX10_richest_63 ?_
      refine pz_sub [1, 2, 4, 5, 0] rfl ?_
      exact tX10_richest_67 hC hK hk33 hf
def fX10_richest_33 : Nat → pz_H → Nat → Int32 → Int32 → Int64 → Int32 → Option (Int32 × pz_H)
  | 0, _, _, _, _, _, _ => none
  | n + 1, f, l0, l1, l2, l3, l5 => fX10_richest_33b (fX10_richest_33 n) f l0 l1 l2 l3 l5
theorem tX10_richest_33 {G : pz_G} {C : pz_C} {r : (Int32 × pz_H)} (hC : pz_OK G C cX10_richest 8 RX10) (hK : pz_K C (some .int) 11 258 0 0) : ∀ (N : Nat) (f : pz_H) (l0 : Nat) (l1 : Int32) (l2 : Int32) (l3 : Int64) (l5 : Int32), fX10_richest_33 N f l0 l1 l2 l3 l5 = some r → pz_W G C 8 33 [(0, .ref l0), (1, .int l1), (2, .int l2), (3, .long l3), (5, .int l5)] [] f 0 0 (pz_Q G C (some (.int r.1)) r.2 0 0) := by
  intro N
  induction N with
  | zero => intro f l0 l1 l2 l3 l5 hf; cases hf
  | succ N ih => intro f l0 l1 l2 l3 l5 hf; exact tX10_richest_33b hC hK (fun f l0 l1 l2 l3 l5 hf => ih f l0 l1 l2 l3 l5 hf) hf
def fnX10_richest (f : pz_H) (a0 : Nat) (p1 : Int32) : Option (Int32 × pz_H) :=
  (pz_is f a0 9).bind fun _ =>
  (pz_sV f a0 9 0 (.int (0 : Int32))).bind fun f1 =>
  (fnX10_isMonth p1).bind fun x2 =>
  if x2 = 0 then some (((-1) : Int32), f1) else
  (fnX10_laysOwns f1 a0).bind fun x3 =>
  (fnX10_sumOf x3 a0 ((10 : Int32)) ((0 : Int32)) p1).bind fun x4 =>
  fX10_richest_33 pz_F x4.2 a0 p1 ((10 : Int32)) x4.1 ((0 : Int32))
theorem mX10_richest {l : Launch} {G : pz_G} {f : pz_H} {a0 : Nat} {p1 : Int32} {r : (Int32 × pz_H)} (hf : fnX10_richest f a0 p1 = some r) : pz_Met l G yX10_richest cX10_richest 8 (some .int) 11 258 0 0 [.ref a0, .int p1] f (some (.int r.1)) r.2 ∧ pz_is f a0 9 = some () := by
  unfold fnX10_richest at hf
  obtain ⟨_, h0, hf⟩ := pz_bd hf
  refine ⟨pz_enter (by decide +kernel) (Nat.le_of_ble_eq_true rfl) (fun C hl hC hK hnm => ?_), h0⟩
  subst hl
  refine pz_sub (lv' := [(0, .ref a0), (1, .int p1)]) [0, 1] rfl ?_
  refine pz_aload_n hC dX10_richest_0 0 rfl ?_
  refine pz_iconst (v := (0 : Int32)) hC dX10_richest_1 (by decide) ?_
  refine pz_putV hC dX10_richest_2 fp_X10_48 rfl rfl hf (fun f1 hf => ?_)
  refine pz_iload_n hC dX10_richest_5 1 rfl ?_
  refine pz_Si (As := [.int p1]) hC hK dX10_richest_6 py_X10_isMonth ps_X10_isMonth lk_X10_155 hf (fun _ h => mX10_isMonth h) rfl rfl (Nat.le_of_ble_eq_true rfl) ⟨by decide, by decide⟩ ⟨by decide, by decide⟩ (fun x2 hf => ?_)
  refine pz_if_ne hC dX10_richest_9 hf (fun _ hf => ?_) (fun _ hf => ?_)
  · refine pz_aload_n hC dX10_richest_14 0 rfl ?_
    refine pz_Vv (As := []) hC hK dX10_richest_15 py_X10_laysOwns pv_X10_laysOwns lk_X10_163 hf (fun _ h => mX10_laysOwns h) rfl rfl (Nat.le_of_ble_eq_true rfl) ⟨by decide, by decide⟩ ⟨Nat.le_of_ble_eq_true rfl, Nat.le_of_ble_eq_true rfl⟩ (fun x3 hf => ?_)
    refine pz_bipush (v := (10 : Int32)) hC dX10_richest_18 (by decide) ?_
    refine pz_istore_n hC dX10_richest_20 (by decide) rfl ?_
    refine pz_aload_n hC dX10_richest_21 1 rfl ?_
    refine pz_bipush (v := (10 : Int32)) hC dX10_richest_22 (by decide) ?_
    refine pz_iconst (v := (0 : Int32)) hC dX10_richest_24 (by decide) ?_
    refine pz_iload_n hC dX10_richest_25 2 rfl ?_
    refine pz_Vlw (As := [.int (10 : Int32), .int (0 : Int32), .int p1]) hC hK dX10_richest_26 py_X10_sumOf pv_X10_sumOf lk_X10_166 hf (fun _ h => mX10_sumOf h) rfl rfl (Nat.le_of_ble_eq_true rfl) ⟨by decide, by decide⟩ ⟨Nat.le_of_ble_eq_true rfl, Nat.le_of_ble_eq_true rfl⟩ (fun x4 hf => ?_)
    refine pz_lstore_n hC dX10_richest_29 (by decide) rfl ?_
    refine pz_iconst (v := (0 : Int32)) hC dX10_richest_30 (by decide) ?_
    refine pz_istore hC dX10_richest_31 (by decide) rfl ?_
    refine pz_sub [3, 4, 2, 1, 0] rfl ?_
    exact tX10_richest_33 hC hK _ _ _ _ _ _ _ hf
  · refine pz_iconst (v := ((-1) : Int32)) hC dX10_richest_12 (by decide) ?_
    exact pz_iretw hC hK dX10_richest_13 hf
def fX10_crosses_21 (f : pz_H) : Option (Int32 × pz_H) :=
  some (((-1) : Int32), f)
theorem tX10_crosses_21 {G : pz_G} {C : pz_C} {f : pz_H} {r : (Int32 × pz_H)} (hC : pz_OK G C cX10_crosses 7 RX10) (hK : pz_K C (some .int) 10 230 0 0) (hf : fX10_crosses_21 f = some r) : pz_W G C 7 21 [] [] f 0 0 (pz_Q G C (some (.int r.1)) r.2 0 0) := by
  unfold fX10_crosses_21 at hf
  refine pz_iconst (v := ((-1) : Int32)) hC dX10_crosses_21 (by decide) ?_
  exact pz_iretw hC hK dX10_crosses_22 hf
def fX10_crosses_35b (k35 : pz_H → Nat → Int32 → Int64 → Int64 → Int32 → Option (Int32 × pz_H)) (f : pz_H) (l0 : Nat) (l1 : Int32) (l2 : Int64) (l4 : Int64) (l6 : Int32) : Option (Int32 × pz_H) :=
  if (1800 : Int32) ≤ l6 then some (((-1) : Int32), f) else
  (fnX10_its f l0 l1 ((4 : Int32))).bind fun x1 =>
  (fnX10_paidBy f l0 l1 l6 x1).bind fun x2 =>
  (fnX10_its x2.2 l0 l1 ((4 : Int32))).bind fun x3 =>
  (fnX10_paidBy x2.2 l0 l1 l6 (((1 : Int32) - x3))).bind fun x4 =>
  if (lg_cmp ((l4 + x4.1)) ((l2 + x2.1))) ≤ 0 then k35 x4.2 l0 l1 ((l2 + x2.1)) ((l4 + x4.1)) ((l6 + 1)) else
  some (l6, x4.2)
theorem tX10_crosses_35b {G : pz_G} {C : pz_C} {f : pz_H} {k35 : pz_H → Nat → Int32 → Int64 → Int64 → Int32 → Option (Int32 × pz_H)} {l0 : Nat} {l1 : Int32} {l2 : Int64} {l4 : Int64} {l6 : Int32} {r : (Int32 × pz_H)} (hC : pz_OK G C cX10_crosses 7 RX10) (hK : pz_K C (some .int) 10 230 0 0) (hk35 : ∀ (g : pz_H) (a0 : Nat) (a1 : Int32) (a2 : Int64) (a4 : Int64) (a6 : Int32), k35 g a0 a1 a2 a4 a6 = some r → pz_W G C 7 35 [(0, .ref a0), (1, .int a1), (2, .long a2), (4, .long a4), (6, .int a6)] [] g 0 0 (pz_Q G C (some (.int r.1)) r.2 0 0)) (hf : fX10_crosses_35b k35 f l0 l1 l2 l4 l6 = some r) : pz_W G C 7 35 [(0, .ref l0), (1, .int l1), (2, .long l2), (4, .long l4), (6, .int l6)] [] f 0 0 (pz_Q G C (some (.int r.1)) r.2 0 0) := by
  unfold fX10_crosses_35b at hf
  refine pz_iload hC dX10_crosses_35 4 rfl ?_
  refine pz_sipush (v := (1800 : Int32)) hC dX10_crosses_37 (by decide) ?_
  refine pz_icmp_ge hC dX10_crosses_40 hf (fun _ hf => ?_) (fun _ hf => ?_)
  · refine pz_iconst (v := ((-1) : Int32)) hC dX10_crosses_95 (by decide) ?_
    exact pz_iretw hC hK dX10_crosses_96 hf
  · refine pz_lload_n hC dX10_crosses_43 2 rfl ?_
    refine pz_aload_n hC dX10_crosses_44 0 rfl ?_
    refine pz_iload_n hC dX10_crosses_45 1 rfl ?_
    refine pz_iload hC dX10_crosses_46 4 rfl ?_
    refine pz_aload_n hC dX10_crosses_48 0 rfl ?_
    refine pz_iload_n hC dX10_crosses_49 1 rfl ?_
    refine pz_iconst (v := (4 : Int32)) hC dX10_crosses_50 (by decide) ?_
    refine pz_Vi (As := [.int l1, .int (4 : Int32)]) hC hK dX10_crosses_51 py_X10_its pv_X10_its lk_X10_56 hf (fun _ h => mX10_its h) rfl rfl (Nat.le_of_ble_eq_true rfl) ⟨by decide, by decide⟩ ⟨Nat.le_of_ble_eq_true rfl, Nat.le_of_ble_eq_true rfl⟩ (fun x1 hf => ?_)
    refine pz_Vlw (As := [.int l1, .int l6, .int x1]) hC hK dX10_crosses_54 py_X10_paidBy pv_X10_paidBy lk_X10_142 hf (fun _ h => mX10_paidBy h) rfl rfl (Nat.le_of_ble_eq_true rfl) ⟨by decide, by decide⟩ ⟨Nat.le_of_ble_eq_true rfl, Nat.le_of_ble_eq_true rfl⟩ (fun x2 hf => ?_)
    refine pz_ladd hC dX10_crosses_57 ?_
    refine pz_lstore_n hC dX10_crosses_58 (by decide) rfl ?_
    refine pz_lload hC dX10_crosses_59 3 rfl ?_
    refine pz_aload_n hC dX10_crosses_61 1 rfl ?_
    refine pz_iload_n hC dX10_crosses_62 2 rfl ?_
    refine pz_iload hC dX10_crosses_63 4 rfl ?_
    refine pz_iconst (v := (1 : Int32)) hC dX10_crosses_65 (by decide) ?_
    refine pz_aload_n hC dX10_crosses_66 1 rfl ?_
    refine pz_iload_n hC dX10_crosses_67 2 rfl ?_
    refine pz_iconst (v := (4 : Int32)) hC dX10_crosses_68 (by decide) ?_
    refine pz_Vi (As := [.int l1, .int (4 : Int32)]) hC hK dX10_crosses_69 py_X10_its pv_X10_its lk_X10_56 hf (fun _ h => mX10_its h) rfl rfl (Nat.le_of_ble_eq_true rfl) ⟨by decide, by decide⟩ ⟨Nat.le_of_ble_eq_true rfl, Nat.le_of_ble_eq_true rfl⟩ (fun x3 hf => ?_)
    refine pz_isub hC dX10_crosses_72 ?_
    refine pz_Vlw (As := [.int l1, .int l6, .int ((1 : Int32) - x3)]) hC hK dX10_crosses_73 py_X10_paidBy pv_X10_paidBy lk_X10_142 hf (fun _ h => mX10_paidBy h) rfl rfl (Nat.le_of_ble_eq_true rfl) ⟨by decide, by decide⟩ ⟨Nat.le_of_ble_eq_true rfl, Nat.le_of_ble_eq_true rfl⟩ (fun x4 hf => ?_)
    refine pz_ladd hC dX10_crosses_76 ?_
    refine pz_lstore hC dX10_crosses_77 (by decide) rfl ?_
    refine pz_lload hC dX10_crosses_79 0 rfl ?_
    refine pz_lload_n hC dX10_crosses_81 1 rfl ?_
    refine pz_lcmp hC dX10_crosses_82 ?_
    refine pz_if_le hC dX10_crosses_83 hf (fun _ hf => ?_) (fun _ hf => ?_)
    · refine pz_iinc (v := (l6 + 1)) hC dX10_crosses_89 4 rfl rfl (by decide) rfl ?_
      refine pz_goto hC dX10_crosses_92 ?_
      refine pz_sub [3, 4, 2, 1, 0] rfl ?_
      exact hk35 _ _ _ _ _ _ hf
    · refine pz_iload hC dX10_crosses_86 4 rfl ?_
      exact pz_iretw hC hK dX10_crosses_88 hf
def fX10_crosses_35 : Nat → pz_H → Nat → Int32 → Int64 → Int64 → Int32 → Option (Int32 × pz_H)
  | 0, _, _, _, _, _, _ => none
  | n + 1, f, l0, l1, l2, l4, l6 => fX10_crosses_35b (fX10_crosses_35 n) f l0 l1 l2 l4 l6
theorem tX10_crosses_35 {G : pz_G} {C : pz_C} {r : (Int32 × pz_H)} (hC : pz_OK G C cX10_crosses 7 RX10) (hK : pz_K C (some .int) 10 230 0 0) : ∀ (N : Nat) (f : pz_H) (l0 : Nat) (l1 : Int32) (l2 : Int64) (l4 : Int64) (l6 : Int32), fX10_crosses_35 N f l0 l1 l2 l4 l6 = some r → pz_W G C 7 35 [(0, .ref l0), (1, .int l1), (2, .long l2), (4, .long l4), (6, .int l6)] [] f 0 0 (pz_Q G C (some (.int r.1)) r.2 0 0) := by
  intro N
  induction N with
  | zero => intro f l0 l1 l2 l4 l6 hf; cases hf
  | succ N ih => intro f l0 l1 l2 l4 l6 hf; exact tX10_crosses_35b hC hK (fun f l0 l1 l2 l4 l6 hf => ih f l0 l1 l2 l4 l6 hf) hf
def fnX10_crosses (f : pz_H) (a0 : Nat) (p1 : Int32) : Option (Int32 × pz_H) :=
  (pz_is f a0 9).bind fun _ =>
  (pz_sV f a0 9 0 (.int (0 : Int32))).bind fun f1 =>
  (fnX10_isSpouse f1 a0 p1).bind fun x2 =>
  if x2 = 0 then fX10_crosses_21 f1 else
  (fnX10_isParted f1 a0 p1).bind fun x3 =>
  if x3 = 0 then fX10_crosses_21 f1 else
  (fnX10_laysOwns f1 a0).bind fun x4 =>
  fX10_crosses_35 pz_F x4 a0 p1 ((0 : Int64)) ((0 : Int64)) ((0 : Int32))
theorem mX10_crosses {l : Launch} {G : pz_G} {f : pz_H} {a0 : Nat} {p1 : Int32} {r : (Int32 × pz_H)} (hf : fnX10_crosses f a0 p1 = some r) : pz_Met l G yX10_crosses cX10_crosses 7 (some .int) 10 230 0 0 [.ref a0, .int p1] f (some (.int r.1)) r.2 ∧ pz_is f a0 9 = some () := by
  unfold fnX10_crosses at hf
  obtain ⟨_, h0, hf⟩ := pz_bd hf
  refine ⟨pz_enter (by decide +kernel) (Nat.le_of_ble_eq_true rfl) (fun C hl hC hK hnm => ?_), h0⟩
  subst hl
  refine pz_sub (lv' := [(0, .ref a0), (1, .int p1)]) [0, 1] rfl ?_
  refine pz_aload_n hC dX10_crosses_0 0 rfl ?_
  refine pz_iconst (v := (0 : Int32)) hC dX10_crosses_1 (by decide) ?_
  refine pz_putV hC dX10_crosses_2 fp_X10_48 rfl rfl hf (fun f1 hf => ?_)
  refine pz_aload_n hC dX10_crosses_5 0 rfl ?_
  refine pz_iload_n hC dX10_crosses_6 1 rfl ?_
  refine pz_Vi (As := [.int p1]) hC hK dX10_crosses_7 py_X10_isSpouse pv_X10_isSpouse lk_X10_149 hf (fun _ h => mX10_isSpouse h) rfl rfl (Nat.le_of_ble_eq_true rfl) ⟨by decide, by decide⟩ ⟨Nat.le_of_ble_eq_true rfl, Nat.le_of_ble_eq_true rfl⟩ (fun x2 hf => ?_)
  refine pz_if_eq hC dX10_crosses_10 hf (fun _ hf => ?_) (fun _ hf => ?_)
  · refine pz_sub [] rfl ?_
    exact tX10_crosses_21 hC hK hf
  · refine pz_aload_n hC dX10_crosses_13 0 rfl ?_
    refine pz_iload_n hC dX10_crosses_14 1 rfl ?_
    refine pz_Vi (As := [.int p1]) hC hK dX10_crosses_15 py_X10_isParted pv_X10_isParted lk_X10_91 hf (fun _ h => mX10_isParted h) rfl rfl (Nat.le_of_ble_eq_true rfl) ⟨by decide, by decide⟩ ⟨Nat.le_of_ble_eq_true rfl, Nat.le_of_ble_eq_true rfl⟩ (fun x3 hf => ?_)
    refine pz_if_ne hC dX10_crosses_18 hf (fun _ hf => ?_) (fun _ hf => ?_)
    · refine pz_aload_n hC dX10_crosses_23 0 rfl ?_
      refine pz_Vv (As := []) hC hK dX10_crosses_24 py_X10_laysOwns pv_X10_laysOwns lk_X10_163 hf (fun _ h => mX10_laysOwns h) rfl rfl (Nat.le_of_ble_eq_true rfl) ⟨by decide, by decide⟩ ⟨Nat.le_of_ble_eq_true rfl, Nat.le_of_ble_eq_true rfl⟩ (fun x4 hf => ?_)
      refine pz_lconst (v := 0) hC dX10_crosses_27 (by decide) ?_
      refine pz_lstore_n hC dX10_crosses_28 (by decide) rfl ?_
      refine pz_lconst (v := 0) hC dX10_crosses_29 (by decide) ?_
      refine pz_lstore hC dX10_crosses_30 (by decide) rfl ?_
      refine pz_iconst (v := (0 : Int32)) hC dX10_crosses_32 (by decide) ?_
      refine pz_istore hC dX10_crosses_33 (by decide) rfl ?_
      refine pz_sub [3, 4, 2, 1, 0] rfl ?_
      exact tX10_crosses_35 hC hK _ _ _ _ _ _ _ hf
    · refine pz_sub [] rfl ?_
      exact tX10_crosses_21 hC hK hf
def fnX10_count (f : pz_H) (a0 : Nat) (p1 : Int32) : Option (Int32 × pz_H) :=
  (pz_is f a0 9).bind fun _ =>
  (pz_sV f a0 9 0 (.int (0 : Int32))).bind fun f1 =>
  (fnX10_in p1 ((10 : Int32)) ((14 : Int32))).bind fun x2 =>
  if x2 = 0 then if p1 = (0 : Int32) then (pz_gR f1 a0 9 1).bind fun v3 =>
  (pz_aI f1 v3 0 ((3 : Int32))).bind fun v4 =>
  some (v4, f1) else
  if p1 = (1 : Int32) then (pz_gR f1 a0 9 1).bind fun v5 =>
  (pz_aI f1 v5 0 ((4 : Int32))).bind fun v6 =>
  some (v6, f1) else
  if p1 = (2 : Int32) then (pz_gR f1 a0 9 1).bind fun v7 =>
  (pz_aI f1 v7 0 ((5 : Int32))).bind fun v8 =>
  some (v8, f1) else
  if p1 = (3 : Int32) then (pz_gR f1 a0 9 1).bind fun v9 =>
  (pz_aI f1 v9 0 ((0 : Int32))).bind fun v10 =>
  some (v10, f1) else
  if p1 = (4 : Int32) then (pz_gR f1 a0 9 1).bind fun v11 =>
  (pz_aI f1 v11 0 ((1 : Int32))).bind fun v12 =>
  some (v12, f1) else
  if p1 = (5 : Int32) then (pz_gR f1 a0 9 1).bind fun v13 =>
  (pz_aI f1 v13 0 ((2 : Int32))).bind fun v14 =>
  some (v14, f1) else
  if p1 = (6 : Int32) then (pz_gI f1 a0 9 14).bind fun v15 =>
  some (v15, f1) else
  if p1 = (7 : Int32) then (pz_gI f1 a0 9 4).bind fun v16 =>
  some (v16, f1) else
  some (((-1) : Int32), f1) else
  (pz_gR f1 a0 9 1).bind fun v17 =>
  (pz_aI f1 v17 0 ((((6 : Int32) + p1) - (10 : Int32)))).bind fun v18 =>
  some (v18, f1)
theorem mX10_count {l : Launch} {G : pz_G} {f : pz_H} {a0 : Nat} {p1 : Int32} {r : (Int32 × pz_H)} (hf : fnX10_count f a0 p1 = some r) : pz_Met l G yX10_count cX10_count 2 (some .int) 1 22 0 0 [.ref a0, .int p1] f (some (.int r.1)) r.2 ∧ pz_is f a0 9 = some () := by
  unfold fnX10_count at hf
  obtain ⟨_, h0, hf⟩ := pz_bd hf
  refine ⟨pz_enter (by decide +kernel) (Nat.le_of_ble_eq_true rfl) (fun C hl hC hK hnm => ?_), h0⟩
  subst hl
  refine pz_sub (lv' := [(0, .ref a0), (1, .int p1)]) [0, 1] rfl ?_
  refine pz_aload_n hC dX10_count_0 0 rfl ?_
  refine pz_iconst (v := (0 : Int32)) hC dX10_count_1 (by decide) ?_
  refine pz_putV hC dX10_count_2 fp_X10_48 rfl rfl hf (fun f1 hf => ?_)
  refine pz_iload_n hC dX10_count_5 1 rfl ?_
  refine pz_bipush (v := (10 : Int32)) hC dX10_count_6 (by decide) ?_
  refine pz_bipush (v := (14 : Int32)) hC dX10_count_8 (by decide) ?_
  refine pz_Si (As := [.int p1, .int (10 : Int32), .int (14 : Int32)]) hC hK dX10_count_10 py_X10_in ps_X10_in lk_X10_52 hf (fun _ h => mX10_in h) rfl rfl (Nat.le_of_ble_eq_true rfl) ⟨by decide, by decide⟩ ⟨by decide, by decide⟩ (fun x2 hf => ?_)
  refine pz_if_eq hC dX10_count_13 hf (fun _ hf => ?_) (fun _ hf => ?_)
  · refine pz_iload_n hC dX10_count_29 1 rfl ?_
    refine pz_case (x := p1) (v := (0 : Int32)) hf (fun c30_0 hf => ?_) (fun c30_0 hf => ?_)
    · refine pz_tabI (tgt := 76) hC dX10_count_30 c30_0 (by decide) (by decide) rfl rfl ?_
      refine pz_aload_n hC dX10_count_76 0 rfl ?_
      refine pz_getR hC dX10_count_77 fa_X10_7 hf (fun v3 hf => ?_)
      refine pz_iconst (v := (3 : Int32)) hC dX10_count_80 (by decide) ?_
      refine pz_iald hC dX10_count_81 hf (fun v4 hf => ?_)
      exact pz_iretw hC hK dX10_count_82 hf
    refine pz_case (x := p1) (v := (1 : Int32)) hf (fun c30_1 hf => ?_) (fun c30_1 hf => ?_)
    · refine pz_tabI (tgt := 83) hC dX10_count_30 c30_1 (by decide) (by decide) rfl rfl ?_
      refine pz_aload_n hC dX10_count_83 0 rfl ?_
      refine pz_getR hC dX10_count_84 fa_X10_7 hf (fun v5 hf => ?_)
      refine pz_iconst (v := (4 : Int32)) hC dX10_count_87 (by decide) ?_
      refine pz_iald hC dX10_count_88 hf (fun v6 hf => ?_)
      exact pz_iretw hC hK dX10_count_89 hf
    refine pz_case (x := p1) (v := (2 : Int32)) hf (fun c30_2 hf => ?_) (fun c30_2 hf => ?_)
    · refine pz_tabI (tgt := 90) hC dX10_count_30 c30_2 (by decide) (by decide) rfl rfl ?_
      refine pz_aload_n hC dX10_count_90 0 rfl ?_
      refine pz_getR hC dX10_count_91 fa_X10_7 hf (fun v7 hf => ?_)
      refine pz_iconst (v := (5 : Int32)) hC dX10_count_94 (by decide) ?_
      refine pz_iald hC dX10_count_95 hf (fun v8 hf => ?_)
      exact pz_iretw hC hK dX10_count_96 hf
    refine pz_case (x := p1) (v := (3 : Int32)) hf (fun c30_3 hf => ?_) (fun c30_3 hf => ?_)
    · refine pz_tabI (tgt := 97) hC dX10_count_30 c30_3 (by decide) (by decide) rfl rfl ?_
      refine pz_aload_n hC dX10_count_97 0 rfl ?_
      refine pz_getR hC dX10_count_98 fa_X10_7 hf (fun v9 hf => ?_)
      refine pz_iconst (v := (0 : Int32)) hC dX10_count_101 (by decide) ?_
      refine pz_iald hC dX10_count_102 hf (fun v10 hf => ?_)
      exact pz_iretw hC hK dX10_count_103 hf
    refine pz_case (x := p1) (v := (4 : Int32)) hf (fun c30_4 hf => ?_) (fun c30_4 hf => ?_)
    · refine pz_tabI (tgt := 104) hC dX10_count_30 c30_4 (by decide) (by decide) rfl rfl ?_
      refine pz_aload_n hC dX10_count_104 0 rfl ?_
      refine pz_getR hC dX10_count_105 fa_X10_7 hf (fun v11 hf => ?_)
      refine pz_iconst (v := (1 : Int32)) hC dX10_count_108 (by decide) ?_
      refine pz_iald hC dX10_count_109 hf (fun v12 hf => ?_)
      exact pz_iretw hC hK dX10_count_110 hf
    refine pz_case (x := p1) (v := (5 : Int32)) hf (fun c30_5 hf => ?_) (fun c30_5 hf => ?_)
    · refine pz_tabI (tgt := 111) hC dX10_count_30 c30_5 (by decide) (by decide) rfl rfl ?_
      refine pz_aload_n hC dX10_count_111 0 rfl ?_
      refine pz_getR hC dX10_count_112 fa_X10_7 hf (fun v13 hf => ?_)
      refine pz_iconst (v := (2 : Int32)) hC dX10_count_115 (by decide) ?_
      refine pz_iald hC dX10_count_116 hf (fun v14 hf => ?_)
      exact pz_iretw hC hK dX10_count_117 hf
    refine pz_case (x := p1) (v := (6 : Int32)) hf (fun c30_6 hf => ?_) (fun c30_6 hf => ?_)
    · refine pz_tabI (tgt := 118) hC dX10_count_30 c30_6 (by decide) (by decide) rfl rfl ?_
      refine pz_aload_n hC dX10_count_118 0 rfl ?_
      refine pz_getI hC dX10_count_119 fa_X10_169 hf (fun v15 hf => ?_)
      exact pz_iretw hC hK dX10_count_122 hf
    refine pz_case (x := p1) (v := (7 : Int32)) hf (fun c30_7 hf => ?_) (fun c30_7 hf => ?_)
    · refine pz_tabI (tgt := 123) hC dX10_count_30 c30_7 (by decide) (by decide) rfl rfl ?_
      refine pz_aload_n hC dX10_count_123 0 rfl ?_
      refine pz_getI hC dX10_count_124 fa_X10_172 hf (fun v16 hf => ?_)
      exact pz_iretw hC hK dX10_count_127 hf
    have ec30_0 : ¬ p1.toInt = 0 := lv_neT c30_0 rfl
    have ec30_1 : ¬ p1.toInt = 1 := lv_neT c30_1 rfl
    have ec30_2 : ¬ p1.toInt = 2 := lv_neT c30_2 rfl
    have ec30_3 : ¬ p1.toInt = 3 := lv_neT c30_3 rfl
    have ec30_4 : ¬ p1.toInt = 4 := lv_neT c30_4 rfl
    have ec30_5 : ¬ p1.toInt = 5 := lv_neT c30_5 rfl
    have ec30_6 : ¬ p1.toInt = 6 := lv_neT c30_6 rfl
    have ec30_7 : ¬ p1.toInt = 7 := lv_neT c30_7 rfl
    refine pz_tabO (tgt := 128) hC dX10_count_30 (by omega) rfl ?_
    refine pz_iconst (v := ((-1) : Int32)) hC dX10_count_128 (by decide) ?_
    exact pz_iretw hC hK dX10_count_129 hf
  · refine pz_aload_n hC dX10_count_16 0 rfl ?_
    refine pz_getR hC dX10_count_17 fa_X10_7 hf (fun v17 hf => ?_)
    refine pz_bipush (v := (6 : Int32)) hC dX10_count_20 (by decide) ?_
    refine pz_iload_n hC dX10_count_22 1 rfl ?_
    refine pz_iadd hC dX10_count_23 ?_
    refine pz_bipush (v := (10 : Int32)) hC dX10_count_24 (by decide) ?_
    refine pz_isub hC dX10_count_26 ?_
    refine pz_iald hC dX10_count_27 hf (fun v18 hf => ?_)
    exact pz_iretw hC hK dX10_count_28 hf
def fX10_span_51 (f : pz_H) (s0 : Int32) : Option (Int32 × pz_H) :=
  some (s0, f)
theorem tX10_span_51 {G : pz_G} {C : pz_C} {f : pz_H} {s0 : Int32} {r : (Int32 × pz_H)} (hC : pz_OK G C cX10_span 3 RX10) (hK : pz_K C (some .int) 1 22 0 0) (hf : fX10_span_51 f s0 = some r) : pz_W G C 3 51 [] [.int s0] f 0 0 (pz_Q G C (some (.int r.1)) r.2 0 0) := by
  unfold fX10_span_51 at hf
  exact pz_iretw hC hK dX10_span_51 hf
def fX10_span_31 (f : pz_H) (l0 : Nat) (l1 : Int32) (l2 : Int32) (s0 : Int32) (s1 : Nat) : Option (Int32 × pz_H) :=
  (pz_sV f s1 9 0 (.int s0)).bind fun f1 =>
  (pz_gI f1 l0 9 0).bind fun v2 =>
  if v2 ≤ 0 then (fnX10_spanOf f1 l0 l1 l2).bind fun x3 =>
  fX10_span_51 f1 x3 else
  fX10_span_51 f1 ((0 : Int32))
theorem tX10_span_31 {G : pz_G} {C : pz_C} {f : pz_H} {l0 : Nat} {l1 : Int32} {l2 : Int32} {s0 : Int32} {s1 : Nat} {r : (Int32 × pz_H)} (hC : pz_OK G C cX10_span 3 RX10) (hK : pz_K C (some .int) 1 22 0 0) (hf : fX10_span_31 f l0 l1 l2 s0 s1 = some r) : pz_W G C 3 31 [(0, .ref l0), (1, .int l1), (2, .int l2)] [.int s0, .ref s1] f 0 0 (pz_Q G C (some (.int r.1)) r.2 0 0) := by
  unfold fX10_span_31 at hf
  refine pz_putV hC dX10_span_31 fp_X10_48 rfl rfl hf (fun f1 hf => ?_)
  refine pz_aload_n hC dX10_span_34 0 rfl ?_
  refine pz_getI hC dX10_span_35 fa_X10_48 hf (fun v2 hf => ?_)
  refine pz_if_le hC dX10_span_38 hf (fun _ hf => ?_) (fun _ hf => ?_)
  · refine pz_aload_n hC dX10_span_45 0 rfl ?_
    refine pz_iload_n hC dX10_span_46 1 rfl ?_
    refine pz_iload_n hC dX10_span_47 2 rfl ?_
    refine pz_Vi (As := [.int l1, .int l2]) hC hK dX10_span_48 py_X10_spanOf pv_X10_spanOf lk_X10_60 hf (fun _ h => mX10_spanOf h) rfl rfl (Nat.le_of_ble_eq_true rfl) ⟨by decide, by decide⟩ ⟨Nat.le_of_ble_eq_true rfl, Nat.le_of_ble_eq_true rfl⟩ (fun x3 hf => ?_)
    refine pz_sub [] rfl ?_
    exact tX10_span_51 hC hK hf
  · refine pz_iconst (v := (0 : Int32)) hC dX10_span_41 (by decide) ?_
    refine pz_goto hC dX10_span_42 ?_
    refine pz_sub [] rfl ?_
    exact tX10_span_51 hC hK hf
def fX10_span_30 (f : pz_H) (l0 : Nat) (l1 : Int32) (l2 : Int32) (s0 : Nat) : Option (Int32 × pz_H) :=
  fX10_span_31 f l0 l1 l2 ((1 : Int32)) s0
theorem tX10_span_30 {G : pz_G} {C : pz_C} {f : pz_H} {l0 : Nat} {l1 : Int32} {l2 : Int32} {s0 : Nat} {r : (Int32 × pz_H)} (hC : pz_OK G C cX10_span 3 RX10) (hK : pz_K C (some .int) 1 22 0 0) (hf : fX10_span_30 f l0 l1 l2 s0 = some r) : pz_W G C 3 30 [(0, .ref l0), (1, .int l1), (2, .int l2)] [.ref s0] f 0 0 (pz_Q G C (some (.int r.1)) r.2 0 0) := by
  unfold fX10_span_30 at hf
  refine pz_iconst (v := (1 : Int32)) hC dX10_span_30 (by decide) ?_
  exact tX10_span_31 hC hK hf
def fnX10_span (f : pz_H) (a0 : Nat) (p1 : Int32) (p2 : Int32) : Option (Int32 × pz_H) :=
  (pz_is f a0 9).bind fun _ =>
  (pz_gR f a0 9 1).bind fun v1 =>
  (pz_aI f v1 0 ((3 : Int32))).bind fun v2 =>
  (fnX10_in p1 ((0 : Int32)) ((v2 - (1 : Int32)))).bind fun x3 =>
  if x3 = 0 then fX10_span_30 f a0 p1 p2 a0 else
  (fnX10_in p2 ((0 : Int32)) ((2 : Int32))).bind fun x4 =>
  if x4 = 0 then fX10_span_30 f a0 p1 p2 a0 else
  fX10_span_31 f a0 p1 p2 ((0 : Int32)) a0
theorem mX10_span {l : Launch} {G : pz_G} {f : pz_H} {a0 : Nat} {p1 : Int32} {p2 : Int32} {r : (Int32 × pz_H)} (hf : fnX10_span f a0 p1 p2 = some r) : pz_Met l G yX10_span cX10_span 3 (some .int) 1 22 0 0 [.ref a0, .int p1, .int p2] f (some (.int r.1)) r.2 ∧ pz_is f a0 9 = some () := by
  unfold fnX10_span at hf
  obtain ⟨_, h0, hf⟩ := pz_bd hf
  refine ⟨pz_enter (by decide +kernel) (Nat.le_of_ble_eq_true rfl) (fun C hl hC hK hnm => ?_), h0⟩
  subst hl
  refine pz_sub (lv' := [(0, .ref a0), (1, .int p1), (2, .int p2)]) [0, 1, 2] rfl ?_
  refine pz_aload_n hC dX10_span_0 0 rfl ?_
  refine pz_iload_n hC dX10_span_1 1 rfl ?_
  refine pz_iconst (v := (0 : Int32)) hC dX10_span_2 (by decide) ?_
  refine pz_aload_n hC dX10_span_3 0 rfl ?_
  refine pz_getR hC dX10_span_4 fa_X10_7 hf (fun v1 hf => ?_)
  refine pz_iconst (v := (3 : Int32)) hC dX10_span_7 (by decide) ?_
  refine pz_iald hC dX10_span_8 hf (fun v2 hf => ?_)
  refine pz_iconst (v := (1 : Int32)) hC dX10_span_9 (by decide) ?_
  refine pz_isub hC dX10_span_10 ?_
  refine pz_Si (As := [.int p1, .int (0 : Int32), .int (v2 - (1 : Int32))]) hC hK dX10_span_11 py_X10_in ps_X10_in lk_X10_52 hf (fun _ h => mX10_in h) rfl rfl (Nat.le_of_ble_eq_true rfl) ⟨by decide, by decide⟩ ⟨by decide, by decide⟩ (fun x3 hf => ?_)
  refine pz_if_eq hC dX10_span_14 hf (fun _ hf => ?_) (fun _ hf => ?_)
  · exact tX10_span_30 hC hK hf
  · refine pz_iload_n hC dX10_span_17 2 rfl ?_
    refine pz_iconst (v := (0 : Int32)) hC dX10_span_18 (by decide) ?_
    refine pz_iconst (v := (2 : Int32)) hC dX10_span_19 (by decide) ?_
    refine pz_Si (As := [.int p2, .int (0 : Int32), .int (2 : Int32)]) hC hK dX10_span_20 py_X10_in ps_X10_in lk_X10_52 hf (fun _ h => mX10_in h) rfl rfl (Nat.le_of_ble_eq_true rfl) ⟨by decide, by decide⟩ ⟨by decide, by decide⟩ (fun x4 hf => ?_)
    refine pz_if_eq hC dX10_span_23 hf (fun _ hf => ?_) (fun _ hf => ?_)
    · exact tX10_span_30 hC hK hf
    · refine pz_iconst (v := (0 : Int32)) hC dX10_span_26 (by decide) ?_
      refine pz_goto hC dX10_span_27 ?_
      exact tX10_span_31 hC hK hf
def fX10_spouse_70 (f : pz_H) (s0 : Int32) : Option (Int32 × pz_H) :=
  some (s0, f)
theorem tX10_spouse_70 {G : pz_G} {C : pz_C} {f : pz_H} {s0 : Int32} {r : (Int32 × pz_H)} (hC : pz_OK G C cX10_spouse 3 RX10) (hK : pz_K C (some .int) 3 69 0 0) (hf : fX10_spouse_70 f s0 = some r) : pz_W G C 3 70 [] [.int s0] f 0 0 (pz_Q G C (some (.int r.1)) r.2 0 0) := by
  unfold fX10_spouse_70 at hf
  exact pz_iretw hC hK dX10_spouse_70 hf
def fX10_spouse_24 (f : pz_H) (l0 : Nat) (l1 : Int32) (l2 : Int32) (s0 : Int32) (s1 : Nat) : Option (Int32 × pz_H) :=
  (pz_sV f s1 9 0 (.int s0)).bind fun f1 =>
  (pz_gI f1 l0 9 0).bind fun v2 =>
  if v2 ≤ 0 then if (8 : Int32) ≤ l2 then if l2 = (8 : Int32) then (fnX10_wedIn f1 l0 l1).bind fun x4 =>
  fX10_spouse_70 f1 x4 else
  (fnX10_begin f1 l0 l1).bind fun x3 =>
  fX10_spouse_70 f1 x3 else
  (fnX10_its f1 l0 l1 l2).bind fun x5 =>
  fX10_spouse_70 f1 x5 else
  some ((0 : Int32), f1)
theorem tX10_spouse_24 {G : pz_G} {C : pz_C} {f : pz_H} {l0 : Nat} {l1 : Int32} {l2 : Int32} {s0 : Int32} {s1 : Nat} {r : (Int32 × pz_H)} (hC : pz_OK G C cX10_spouse 3 RX10) (hK : pz_K C (some .int) 3 69 0 0) (hf : fX10_spouse_24 f l0 l1 l2 s0 s1 = some r) : pz_W G C 3 24 [(0, .ref l0), (1, .int l1), (2, .int l2)] [.int s0, .ref s1] f 0 0 (pz_Q G C (some (.int r.1)) r.2 0 0) := by
  unfold fX10_spouse_24 at hf
  refine pz_putV hC dX10_spouse_24 fp_X10_48 rfl rfl hf (fun f1 hf => ?_)
  refine pz_aload_n hC dX10_spouse_27 0 rfl ?_
  refine pz_getI hC dX10_spouse_28 fa_X10_48 hf (fun v2 hf => ?_)
  refine pz_if_le hC dX10_spouse_31 hf (fun _ hf => ?_) (fun _ hf => ?_)
  · refine pz_iload_n hC dX10_spouse_36 2 rfl ?_
    refine pz_bipush (v := (8 : Int32)) hC dX10_spouse_37 (by decide) ?_
    refine pz_icmp_ge hC dX10_spouse_39 hf (fun _ hf => ?_) (fun _ hf => ?_)
    · refine pz_iload_n hC dX10_spouse_51 2 rfl ?_
      refine pz_bipush (v := (8 : Int32)) hC dX10_spouse_52 (by decide) ?_
      refine pz_icmp_ne hC dX10_spouse_54 hf (fun _ hf => ?_) (fun _ hf => ?_)
      · refine pz_aload_n hC dX10_spouse_65 0 rfl ?_
        refine pz_iload_n hC dX10_spouse_66 1 rfl ?_
        refine pz_Vi (As := [.int l1]) hC hK dX10_spouse_67 py_X10_begin pv_X10_begin lk_X10_121 hf (fun _ h => mX10_begin h) rfl rfl (Nat.le_of_ble_eq_true rfl) ⟨by decide, by decide⟩ ⟨Nat.le_of_ble_eq_true rfl, Nat.le_of_ble_eq_true rfl⟩ (fun x3 hf => ?_)
        refine pz_sub [] rfl ?_
        exact tX10_spouse_70 hC hK hf
      · refine pz_aload_n hC dX10_spouse_57 0 rfl ?_
        refine pz_iload_n hC dX10_spouse_58 1 rfl ?_
        refine pz_Vi (As := [.int l1]) hC hK dX10_spouse_59 py_X10_wedIn pv_X10_wedIn lk_X10_98 hf (fun _ h => mX10_wedIn h) rfl rfl (Nat.le_of_ble_eq_true rfl) ⟨by decide, by decide⟩ ⟨Nat.le_of_ble_eq_true rfl, Nat.le_of_ble_eq_true rfl⟩ (fun x4 hf => ?_)
        refine pz_goto hC dX10_spouse_62 ?_
        refine pz_sub [] rfl ?_
        exact tX10_spouse_70 hC hK hf
    · refine pz_aload_n hC dX10_spouse_42 0 rfl ?_
      refine pz_iload_n hC dX10_spouse_43 1 rfl ?_
      refine pz_iload_n hC dX10_spouse_44 2 rfl ?_
      refine pz_Vi (As := [.int l1, .int l2]) hC hK dX10_spouse_45 py_X10_its pv_X10_its lk_X10_56 hf (fun _ h => mX10_its h) rfl rfl (Nat.le_of_ble_eq_true rfl) ⟨by decide, by decide⟩ ⟨Nat.le_of_ble_eq_true rfl, Nat.le_of_ble_eq_true rfl⟩ (fun x5 hf => ?_)
      refine pz_goto hC dX10_spouse_48 ?_
      refine pz_sub [] rfl ?_
      exact tX10_spouse_70 hC hK hf
  · refine pz_iconst (v := (0 : Int32)) hC dX10_spouse_34 (by decide) ?_
    exact pz_iretw hC hK dX10_spouse_35 hf
def fX10_spouse_23 (f : pz_H) (l0 : Nat) (l1 : Int32) (l2 : Int32) (s0 : Nat) : Option (Int32 × pz_H) :=
  fX10_spouse_24 f l0 l1 l2 ((1 : Int32)) s0
theorem tX10_spouse_23 {G : pz_G} {C : pz_C} {f : pz_H} {l0 : Nat} {l1 : Int32} {l2 : Int32} {s0 : Nat} {r : (Int32 × pz_H)} (hC : pz_OK G C cX10_spouse 3 RX10) (hK : pz_K C (some .int) 3 69 0 0) (hf : fX10_spouse_23 f l0 l1 l2 s0 = some r) : pz_W G C 3 23 [(0, .ref l0), (1, .int l1), (2, .int l2)] [.ref s0] f 0 0 (pz_Q G C (some (.int r.1)) r.2 0 0) := by
  unfold fX10_spouse_23 at hf
  refine pz_iconst (v := (1 : Int32)) hC dX10_spouse_23 (by decide) ?_
  exact tX10_spouse_24 hC hK hf
def fnX10_spouse (f : pz_H) (a0 : Nat) (p1 : Int32) (p2 : Int32) : Option (Int32 × pz_H) :=
  (pz_is f a0 9).bind fun _ =>
  (fnX10_isSpouse f a0 p1).bind fun x1 =>
  if x1 = 0 then fX10_spouse_23 f a0 p1 p2 a0 else
  (fnX10_in p2 ((0 : Int32)) ((9 : Int32))).bind fun x2 =>
  if x2 = 0 then fX10_spouse_23 f a0 p1 p2 a0 else
  fX10_spouse_24 f a0 p1 p2 ((0 : Int32)) a0
theorem mX10_spouse {l : Launch} {G : pz_G} {f : pz_H} {a0 : Nat} {p1 : Int32} {p2 : Int32} {r : (Int32 × pz_H)} (hf : fnX10_spouse f a0 p1 p2 = some r) : pz_Met l G yX10_spouse cX10_spouse 3 (some .int) 3 69 0 0 [.ref a0, .int p1, .int p2] f (some (.int r.1)) r.2 ∧ pz_is f a0 9 = some () := by
  unfold fnX10_spouse at hf
  obtain ⟨_, h0, hf⟩ := pz_bd hf
  refine ⟨pz_enter (by decide +kernel) (Nat.le_of_ble_eq_true rfl) (fun C hl hC hK hnm => ?_), h0⟩
  subst hl
  refine pz_sub (lv' := [(0, .ref a0), (1, .int p1), (2, .int p2)]) [0, 1, 2] rfl ?_
  refine pz_aload_n hC dX10_spouse_0 0 rfl ?_
  refine pz_aload_n hC dX10_spouse_1 0 rfl ?_
  refine pz_iload_n hC dX10_spouse_2 1 rfl ?_
  refine pz_Vi (As := [.int p1]) hC hK dX10_spouse_3 py_X10_isSpouse pv_X10_isSpouse lk_X10_149 hf (fun _ h => mX10_isSpouse h) rfl rfl (Nat.le_of_ble_eq_true rfl) ⟨by decide, by decide⟩ ⟨Nat.le_of_ble_eq_true rfl, Nat.le_of_ble_eq_true rfl⟩ (fun x1 hf => ?_)
  refine pz_if_eq hC dX10_spouse_6 hf (fun _ hf => ?_) (fun _ hf => ?_)
  · exact tX10_spouse_23 hC hK hf
  · refine pz_iload_n hC dX10_spouse_9 2 rfl ?_
    refine pz_iconst (v := (0 : Int32)) hC dX10_spouse_10 (by decide) ?_
    refine pz_bipush (v := (9 : Int32)) hC dX10_spouse_11 (by decide) ?_
    refine pz_Si (As := [.int p2, .int (0 : Int32), .int (9 : Int32)]) hC hK dX10_spouse_13 py_X10_in ps_X10_in lk_X10_52 hf (fun _ h => mX10_in h) rfl rfl (Nat.le_of_ble_eq_true rfl) ⟨by decide, by decide⟩ ⟨by decide, by decide⟩ (fun x2 hf => ?_)
    refine pz_if_eq hC dX10_spouse_16 hf (fun _ hf => ?_) (fun _ hf => ?_)
    · exact tX10_spouse_23 hC hK hf
    · refine pz_iconst (v := (0 : Int32)) hC dX10_spouse_19 (by decide) ?_
      refine pz_goto hC dX10_spouse_20 ?_
      exact tX10_spouse_24 hC hK hf
