def fX10_service_29 (f : pz_H) (s0 : Int32) : Option (Int32 × pz_H) :=
  some (s0, f)
theorem tX10_service_29 {G : pz_G} {C : pz_C} {f : pz_H} {s0 : Int32} {r : (Int32 × pz_H)} (hC : pz_OK G C cX10_service 3 RX10) (hK : pz_K C (some .int) 2 48 0 0) (hf : fX10_service_29 f s0 = some r) : pz_W G C 3 29 [] [.int s0] f 0 0 (pz_Q G C (some (.int r.1)) r.2 0 0) := by
  unfold fX10_service_29 at hf
  exact pz_iretw hC hK dX10_service_29 hf
def fX10_service_28 (f : pz_H) : Option (Int32 × pz_H) :=
  fX10_service_29 f (((-1) : Int32))
theorem tX10_service_28 {G : pz_G} {C : pz_C} {f : pz_H} {r : (Int32 × pz_H)} (hC : pz_OK G C cX10_service 3 RX10) (hK : pz_K C (some .int) 2 48 0 0) (hf : fX10_service_28 f = some r) : pz_W G C 3 28 [] [] f 0 0 (pz_Q G C (some (.int r.1)) r.2 0 0) := by
  unfold fX10_service_28 at hf
  refine pz_iconst (v := ((-1) : Int32)) hC dX10_service_28 (by decide) ?_
  exact tX10_service_29 hC hK hf
def fnX10_service (f : pz_H) (a0 : Nat) (p1 : Int32) (p2 : Int32) : Option (Int32 × pz_H) :=
  (pz_is f a0 9).bind fun _ =>
  (pz_sV f a0 9 0 (.int (0 : Int32))).bind fun f1 =>
  (fnX10_isMonth p1).bind fun x2 =>
  if x2 = 0 then fX10_service_28 f1 else
  (fnX10_isMonth p2).bind fun x3 =>
  if x3 = 0 then fX10_service_28 f1 else
  (fnX10_serviceIn f1 a0 p1 p2).bind fun x4 =>
  fX10_service_29 f1 x4
theorem mX10_service {l : Launch} {G : pz_G} {f : pz_H} {a0 : Nat} {p1 : Int32} {p2 : Int32} {r : (Int32 × pz_H)} (hf : fnX10_service f a0 p1 p2 = some r) : pz_Met l G yX10_service cX10_service 3 (some .int) 2 48 0 0 [.ref a0, .int p1, .int p2] f (some (.int r.1)) r.2 ∧ pz_is f a0 9 = some () := by
  unfold fnX10_service at hf
  obtain ⟨_, h0, hf⟩ := pz_bd hf
  refine ⟨pz_enter (by decide +kernel) (Nat.le_of_ble_eq_true rfl) (fun C hl hC hK hnm => ?_), h0⟩
  subst hl
  refine pz_sub (lv' := [(0, .ref a0), (1, .int p1), (2, .int p2)]) [0, 1, 2] rfl ?_
  refine pz_aload_n hC dX10_service_0 0 rfl ?_
  refine pz_iconst (v := (0 : Int32)) hC dX10_service_1 (by decide) ?_
  refine pz_putV hC dX10_service_2 fp_X10_48 rfl rfl hf (fun f1 hf => ?_)
  refine pz_iload_n hC dX10_service_5 1 rfl ?_
  refine pz_Si (As := [.int p1]) hC hK dX10_service_6 py_X10_isMonth ps_X10_isMonth lk_X10_155 hf (fun _ h => mX10_isMonth h) rfl rfl (Nat.le_of_ble_eq_true rfl) ⟨by decide, by decide⟩ ⟨by decide, by decide⟩ (fun x2 hf => ?_)
  refine pz_if_eq hC dX10_service_9 hf (fun _ hf => ?_) (fun _ hf => ?_)
  · refine pz_sub [] rfl ?_
    exact tX10_service_28 hC hK hf
  · refine pz_iload_n hC dX10_service_12 2 rfl ?_
    refine pz_Si (As := [.int p2]) hC hK dX10_service_13 py_X10_isMonth ps_X10_isMonth lk_X10_155 hf (fun _ h => mX10_isMonth h) rfl rfl (Nat.le_of_ble_eq_true rfl) ⟨by decide, by decide⟩ ⟨by decide, by decide⟩ (fun x3 hf => ?_)
    refine pz_if_eq hC dX10_service_16 hf (fun _ hf => ?_) (fun _ hf => ?_)
    · refine pz_sub [] rfl ?_
      exact tX10_service_28 hC hK hf
    · refine pz_aload_n hC dX10_service_19 0 rfl ?_
      refine pz_iload_n hC dX10_service_20 1 rfl ?_
      refine pz_iload_n hC dX10_service_21 2 rfl ?_
      refine pz_Vi (As := [.int p1, .int p2]) hC hK dX10_service_22 py_X10_serviceIn pv_X10_serviceIn lk_X10_63 hf (fun _ h => mX10_serviceIn h) rfl rfl (Nat.le_of_ble_eq_true rfl) ⟨by decide, by decide⟩ ⟨Nat.le_of_ble_eq_true rfl, Nat.le_of_ble_eq_true rfl⟩ (fun x4 hf => ?_)
      refine pz_goto hC dX10_service_25 ?_
      refine pz_sub [] rfl ?_
      exact tX10_service_29 hC hK hf
def fnX10_benefit (f : pz_H) (a0 : Nat) (p1 : Int32) : Option (Int32 × pz_H) :=
  (pz_is f a0 9).bind fun _ =>
  (pz_sV f a0 9 0 (.int (0 : Int32))).bind fun f1 =>
  if p1 = (0 : Int32) then (fnX10_served f1 a0).bind fun x2 =>
  some (x2, f1) else
  if p1 = (1 : Int32) then (fnX10_finalPay f1 a0).bind fun x3 =>
  some (x3, f1) else
  if p1 = (2 : Int32) then (fnX10_base f1 a0).bind fun x4 =>
  some (x4, f1) else
  if p1 = (3 : Int32) then (fnX10_firstPaid f1 a0).bind fun x5 =>
  some (x5, f1) else
  some (((-1) : Int32), f1)
theorem mX10_benefit {l : Launch} {G : pz_G} {f : pz_H} {a0 : Nat} {p1 : Int32} {r : (Int32 × pz_H)} (hf : fnX10_benefit f a0 p1 = some r) : pz_Met l G yX10_benefit cX10_benefit 2 (some .int) 5 110 0 0 [.ref a0, .int p1] f (some (.int r.1)) r.2 ∧ pz_is f a0 9 = some () := by
  unfold fnX10_benefit at hf
  obtain ⟨_, h0, hf⟩ := pz_bd hf
  refine ⟨pz_enter (by decide +kernel) (Nat.le_of_ble_eq_true rfl) (fun C hl hC hK hnm => ?_), h0⟩
  subst hl
  refine pz_sub (lv' := [(0, .ref a0), (1, .int p1)]) [0, 1] rfl ?_
  refine pz_aload_n hC dX10_benefit_0 0 rfl ?_
  refine pz_iconst (v := (0 : Int32)) hC dX10_benefit_1 (by decide) ?_
  refine pz_putV hC dX10_benefit_2 fp_X10_48 rfl rfl hf (fun f1 hf => ?_)
  refine pz_iload_n hC dX10_benefit_5 1 rfl ?_
  refine pz_case (x := p1) (v := (0 : Int32)) hf (fun c6_0 hf => ?_) (fun c6_0 hf => ?_)
  · refine pz_tabI (tgt := 36) hC dX10_benefit_6 c6_0 (by decide) (by decide) rfl rfl ?_
    refine pz_aload_n hC dX10_benefit_36 0 rfl ?_
    refine pz_Vi (As := []) hC hK dX10_benefit_37 py_X10_served pv_X10_served lk_X10_70 hf (fun _ h => mX10_served h) rfl rfl (Nat.le_of_ble_eq_true rfl) ⟨by decide, by decide⟩ ⟨Nat.le_of_ble_eq_true rfl, Nat.le_of_ble_eq_true rfl⟩ (fun x2 hf => ?_)
    exact pz_iretw hC hK dX10_benefit_40 hf
  refine pz_case (x := p1) (v := (1 : Int32)) hf (fun c6_1 hf => ?_) (fun c6_1 hf => ?_)
  · refine pz_tabI (tgt := 41) hC dX10_benefit_6 c6_1 (by decide) (by decide) rfl rfl ?_
    refine pz_aload_n hC dX10_benefit_41 0 rfl ?_
    refine pz_Vi (As := []) hC hK dX10_benefit_42 py_X10_finalPay pv_X10_finalPay lk_X10_66 hf (fun _ h => mX10_finalPay h) rfl rfl (Nat.le_of_ble_eq_true rfl) ⟨by decide, by decide⟩ ⟨Nat.le_of_ble_eq_true rfl, Nat.le_of_ble_eq_true rfl⟩ (fun x3 hf => ?_)
    exact pz_iretw hC hK dX10_benefit_45 hf
  refine pz_case (x := p1) (v := (2 : Int32)) hf (fun c6_2 hf => ?_) (fun c6_2 hf => ?_)
  · refine pz_tabI (tgt := 46) hC dX10_benefit_6 c6_2 (by decide) (by decide) rfl rfl ?_
    refine pz_aload_n hC dX10_benefit_46 0 rfl ?_
    refine pz_Vi (As := []) hC hK dX10_benefit_47 py_X10_base pv_X10_base lk_X10_75 hf (fun _ h => mX10_base h) rfl rfl (Nat.le_of_ble_eq_true rfl) ⟨by decide, by decide⟩ ⟨Nat.le_of_ble_eq_true rfl, Nat.le_of_ble_eq_true rfl⟩ (fun x4 hf => ?_)
    exact pz_iretw hC hK dX10_benefit_50 hf
  refine pz_case (x := p1) (v := (3 : Int32)) hf (fun c6_3 hf => ?_) (fun c6_3 hf => ?_)
  · refine pz_tabI (tgt := 51) hC dX10_benefit_6 c6_3 (by decide) (by decide) rfl rfl ?_
    refine pz_aload_n hC dX10_benefit_51 0 rfl ?_
    refine pz_Vi (As := []) hC hK dX10_benefit_52 py_X10_firstPaid pv_X10_firstPaid lk_X10_84 hf (fun _ h => mX10_firstPaid h) rfl rfl (Nat.le_of_ble_eq_true rfl) ⟨by decide, by decide⟩ ⟨Nat.le_of_ble_eq_true rfl, Nat.le_of_ble_eq_true rfl⟩ (fun x5 hf => ?_)
    exact pz_iretw hC hK dX10_benefit_55 hf
  have ec6_0 : ¬ p1.toInt = 0 := lv_neT c6_0 rfl
  have ec6_1 : ¬ p1.toInt = 1 := lv_neT c6_1 rfl
  have ec6_2 : ¬ p1.toInt = 2 := lv_neT c6_2 rfl
  have ec6_3 : ¬ p1.toInt = 3 := lv_neT c6_3 rfl
  refine pz_tabO (tgt := 56) hC dX10_benefit_6 (by omega) rfl ?_
  refine pz_iconst (v := ((-1) : Int32)) hC dX10_benefit_56 (by decide) ?_
  exact pz_iretw hC hK dX10_benefit_57 hf
def fnX10_whole (f : pz_H) (a0 : Nat) (p1 : Int32) : Option (Int32 × pz_H) :=
  (pz_is f a0 9).bind fun _ =>
  (pz_sV f a0 9 0 (.int (0 : Int32))).bind fun f1 =>
  (fnX10_isMonth p1).bind fun x2 =>
  if x2 = 0 then some (((-1) : Int32), f1) else
  (fnX10_laysWholes f1 a0).bind fun x3 =>
  (pz_gR x3 a0 9 5).bind fun v4 =>
  (pz_aL x3 v4 1 p1).bind fun v5 =>
  some (v5.toInt32, x3)
theorem mX10_whole {l : Launch} {G : pz_G} {f : pz_H} {a0 : Nat} {p1 : Int32} {r : (Int32 × pz_H)} (hf : fnX10_whole f a0 p1 = some r) : pz_Met l G yX10_whole cX10_whole 2 (some .int) 6 135 0 0 [.ref a0, .int p1] f (some (.int r.1)) r.2 ∧ pz_is f a0 9 = some () := by
  unfold fnX10_whole at hf
  obtain ⟨_, h0, hf⟩ := pz_bd hf
  refine ⟨pz_enter (by decide +kernel) (Nat.le_of_ble_eq_true rfl) (fun C hl hC hK hnm => ?_), h0⟩
  subst hl
  refine pz_sub (lv' := [(0, .ref a0), (1, .int p1)]) [0, 1] rfl ?_
  refine pz_aload_n hC dX10_whole_0 0 rfl ?_
  refine pz_iconst (v := (0 : Int32)) hC dX10_whole_1 (by decide) ?_
  refine pz_putV hC dX10_whole_2 fp_X10_48 rfl rfl hf (fun f1 hf => ?_)
  refine pz_iload_n hC dX10_whole_5 1 rfl ?_
  refine pz_Si (As := [.int p1]) hC hK dX10_whole_6 py_X10_isMonth ps_X10_isMonth lk_X10_155 hf (fun _ h => mX10_isMonth h) rfl rfl (Nat.le_of_ble_eq_true rfl) ⟨by decide, by decide⟩ ⟨by decide, by decide⟩ (fun x2 hf => ?_)
  refine pz_if_ne hC dX10_whole_9 hf (fun _ hf => ?_) (fun _ hf => ?_)
  · refine pz_aload_n hC dX10_whole_14 0 rfl ?_
    refine pz_Vv (As := []) hC hK dX10_whole_15 py_X10_laysWholes pv_X10_laysWholes lk_X10_95 hf (fun _ h => mX10_laysWholes h) rfl rfl (Nat.le_of_ble_eq_true rfl) ⟨by decide, by decide⟩ ⟨Nat.le_of_ble_eq_true rfl, Nat.le_of_ble_eq_true rfl⟩ (fun x3 hf => ?_)
    refine pz_aload_n hC dX10_whole_18 0 rfl ?_
    refine pz_getR hC dX10_whole_19 fa_X10_19 hf (fun v4 hf => ?_)
    refine pz_iload_n hC dX10_whole_22 1 rfl ?_
    refine pz_lald hC dX10_whole_23 hf (fun v5 hf => ?_)
    refine pz_l2i hC dX10_whole_24 ?_
    exact pz_iretw hC hK dX10_whole_25 hf
  · refine pz_iconst (v := ((-1) : Int32)) hC dX10_whole_12 (by decide) ?_
    exact pz_iretw hC hK dX10_whole_13 hf
def fX10_divisor_4b (k4 : Int32 → Int32 → Option Int32) (l2 : Int32) (l3 : Int32) : Option Int32 :=
  if l3 = 0 then some l2 else
  if l3 = 0 then none else
  k4 l3 ((l2 - l2 / l3 * l3))
theorem tX10_divisor_4b {G : pz_G} {C : pz_C} {f : pz_H} {k4 : Int32 → Int32 → Option Int32} {l2 : Int32} {l3 : Int32} {r : Int32} (hC : pz_OK G C cX10_divisor 5 RX10) (hK : pz_K C (some .int) 0 0 0 0) (hk4 : ∀ (a2 : Int32) (a3 : Int32), k4 a2 a3 = some r → pz_W G C 5 4 [(2, .int a2), (3, .int a3)] [] f 0 0 (pz_Q G C (some (.int r)) f 0 0)) (hf : fX10_divisor_4b k4 l2 l3 = some r) : pz_W G C 5 4 [(2, .int l2), (3, .int l3)] [] f 0 0 (pz_Q G C (some (.int r)) f 0 0) := by
  unfold fX10_divisor_4b at hf
  refine pz_iload_n hC dX10_divisor_4 1 rfl ?_
  refine pz_if_eq hC dX10_divisor_5 hf (fun _ hf => ?_) (fun _ hf => ?_)
  · refine pz_iload_n hC dX10_divisor_21 0 rfl ?_
    exact pz_iret hC hK dX10_divisor_22 hf
  · refine pz_iload_n hC dX10_divisor_8 0 rfl ?_
    refine pz_iload_n hC dX10_divisor_9 1 rfl ?_
    refine pz_irem hC dX10_divisor_10 hf (fun hf => ?_)
    refine pz_istore hC dX10_divisor_11 (by decide) rfl ?_
    refine pz_iload_n hC dX10_divisor_13 2 rfl ?_
    refine pz_istore_n hC dX10_divisor_14 (by decide) rfl ?_
    refine pz_iload hC dX10_divisor_15 1 rfl ?_
    refine pz_istore_n hC dX10_divisor_17 (by decide) rfl ?_
    refine pz_goto hC dX10_divisor_18 ?_
    refine pz_sub [1, 0] rfl ?_
    exact hk4 _ _ hf
def fX10_divisor_4 : Nat → Int32 → Int32 → Option Int32
  | 0, _, _ => none
  | n + 1, l2, l3 => fX10_divisor_4b (fX10_divisor_4 n) l2 l3
theorem tX10_divisor_4 {G : pz_G} {C : pz_C} {f : pz_H} {r : Int32} (hC : pz_OK G C cX10_divisor 5 RX10) (hK : pz_K C (some .int) 0 0 0 0) : ∀ (N : Nat) (l2 : Int32) (l3 : Int32), fX10_divisor_4 N l2 l3 = some r → pz_W G C 5 4 [(2, .int l2), (3, .int l3)] [] f 0 0 (pz_Q G C (some (.int r)) f 0 0) := by
  intro N
  induction N with
  | zero => intro l2 l3 hf; cases hf
  | succ N ih => intro l2 l3 hf; exact tX10_divisor_4b hC hK (fun l2 l3 hf => ih l2 l3 hf) hf
def fnX10_divisor (p0 : Int32) (p1 : Int32) : Option Int32 :=
  fX10_divisor_4 pz_F p0 p1
theorem mX10_divisor {l : Launch} {G : pz_G} {f : pz_H} {p0 : Int32} {p1 : Int32} {r : Int32} (hf : fnX10_divisor p0 p1 = some r) : pz_Met l G yX10_divisor cX10_divisor 5 (some .int) 0 0 0 0 [.int p0, .int p1] f (some (.int r)) f := by
  unfold fnX10_divisor at hf
  refine pz_enter (by decide +kernel) (Nat.le_of_ble_eq_true rfl) (fun C hl hC hK hnm => ?_)
  subst hl
  refine pz_sub (lv' := [(0, .int p0), (1, .int p1)]) [0, 1] rfl ?_
  refine pz_iload_n hC dX10_divisor_0 0 rfl ?_
  refine pz_istore_n hC dX10_divisor_1 (by decide) rfl ?_
  refine pz_iload_n hC dX10_divisor_2 2 rfl ?_
  refine pz_istore_n hC dX10_divisor_3 (by decide) rfl ?_
  refine pz_sub [1, 0] rfl ?_
  exact tX10_divisor_4 hC hK _ _ _ hf
def fX10_share_70 (f : pz_H) (s0 : Int32) : Option (Int32 × pz_H) :=
  some (s0, f)
theorem tX10_share_70 {G : pz_G} {C : pz_C} {f : pz_H} {s0 : Int32} {r : (Int32 × pz_H)} (hC : pz_OK G C cX10_share 6 RX10) (hK : pz_K C (some .int) 3 69 0 0) (hf : fX10_share_70 f s0 = some r) : pz_W G C 6 70 [] [.int s0] f 0 0 (pz_Q G C (some (.int r.1)) r.2 0 0) := by
  unfold fX10_share_70 at hf
  exact pz_iretw hC hK dX10_share_70 hf
def fX10_share_44 (f : pz_H) (l2 : Int32) (l3 : Int32) (s0 : Int32) : Option (Int32 × pz_H) :=
  (fnX10_divisor l3 s0).bind fun x1 =>
  if l2 = 0 then if x1 = 0 then none else
  fX10_share_70 f ((l3 / x1)) else
  if x1 = 0 then none else
  fX10_share_70 f ((s0 / x1))
theorem tX10_share_44 {G : pz_G} {C : pz_C} {f : pz_H} {l2 : Int32} {l3 : Int32} {s0 : Int32} {r : (Int32 × pz_H)} (hC : pz_OK G C cX10_share 6 RX10) (hK : pz_K C (some .int) 3 69 0 0) (hf : fX10_share_44 f l2 l3 s0 = some r) : pz_W G C 6 44 [(2, .int l2), (3, .int l3)] [.int s0] f 0 0 (pz_Q G C (some (.int r.1)) r.2 0 0) := by
  unfold fX10_share_44 at hf
  refine pz_istore hC dX10_share_44 (by decide) rfl ?_
  refine pz_iload_n hC dX10_share_46 2 rfl ?_
  refine pz_iload hC dX10_share_47 0 rfl ?_
  refine pz_Si (As := [.int l3, .int s0]) hC hK dX10_share_49 py_X10_divisor ps_X10_divisor lk_X10_175 hf (fun _ h => mX10_divisor h) rfl rfl (Nat.le_of_ble_eq_true rfl) ⟨by decide, by decide⟩ ⟨by decide, by decide⟩ (fun x1 hf => ?_)
  refine pz_istore hC dX10_share_52 (by decide) rfl ?_
  refine pz_iload_n hC dX10_share_54 2 rfl ?_
  refine pz_if_eq hC dX10_share_55 hf (fun _ hf => ?_) (fun _ hf => ?_)
  · refine pz_iload_n hC dX10_share_66 3 rfl ?_
    refine pz_iload hC dX10_share_67 0 rfl ?_
    refine pz_idiv hC dX10_share_69 hf (fun hf => ?_)
    refine pz_sub [] rfl ?_
    exact tX10_share_70 hC hK hf
  · refine pz_iload hC dX10_share_58 1 rfl ?_
    refine pz_iload hC dX10_share_60 0 rfl ?_
    refine pz_idiv hC dX10_share_62 hf (fun hf => ?_)
    refine pz_goto hC dX10_share_63 ?_
    refine pz_sub [] rfl ?_
    exact tX10_share_70 hC hK hf
def fnX10_share (f : pz_H) (a0 : Nat) (p1 : Int32) (p2 : Int32) : Option (Int32 × pz_H) :=
  (pz_is f a0 9).bind fun _ =>
  (pz_sV f a0 9 0 (.int (0 : Int32))).bind fun f1 =>
  (fnX10_isSpouse f1 a0 p1).bind fun x2 =>
  if x2 = 0 then some (((-1) : Int32), f1) else
  (fnX10_its f1 a0 p1 ((3 : Int32))).bind fun x3 =>
  (fnX10_wedIn f1 a0 p1).bind fun x4 =>
  if (x3 * x4) = 0 then fX10_share_44 f1 p2 ((x3 * x4)) ((1 : Int32)) else
  (fnX10_served f1 a0).bind fun x5 =>
  fX10_share_44 f1 p2 ((x3 * x4)) (((1000 : Int32) * x5))
theorem mX10_share {l : Launch} {G : pz_G} {f : pz_H} {a0 : Nat} {p1 : Int32} {p2 : Int32} {r : (Int32 × pz_H)} (hf : fnX10_share f a0 p1 p2 = some r) : pz_Met l G yX10_share cX10_share 6 (some .int) 3 69 0 0 [.ref a0, .int p1, .int p2] f (some (.int r.1)) r.2 ∧ pz_is f a0 9 = some () := by
  unfold fnX10_share at hf
  obtain ⟨_, h0, hf⟩ := pz_bd hf
  refine ⟨pz_enter (by decide +kernel) (Nat.le_of_ble_eq_true rfl) (fun C hl hC hK hnm => ?_), h0⟩
  subst hl
  refine pz_sub (lv' := [(0, .ref a0), (1, .int p1), (2, .int p2)]) [0, 1, 2] rfl ?_
  refine pz_aload_n hC dX10_share_0 0 rfl ?_
  refine pz_iconst (v := (0 : Int32)) hC dX10_share_1 (by decide) ?_
  refine pz_putV hC dX10_share_2 fp_X10_48 rfl rfl hf (fun f1 hf => ?_)
  refine pz_aload_n hC dX10_share_5 0 rfl ?_
  refine pz_iload_n hC dX10_share_6 1 rfl ?_
  refine pz_Vi (As := [.int p1]) hC hK dX10_share_7 py_X10_isSpouse pv_X10_isSpouse lk_X10_149 hf (fun _ h => mX10_isSpouse h) rfl rfl (Nat.le_of_ble_eq_true rfl) ⟨by decide, by decide⟩ ⟨Nat.le_of_ble_eq_true rfl, Nat.le_of_ble_eq_true rfl⟩ (fun x2 hf => ?_)
  refine pz_if_ne hC dX10_share_10 hf (fun _ hf => ?_) (fun _ hf => ?_)
  · refine pz_aload_n hC dX10_share_15 0 rfl ?_
    refine pz_iload_n hC dX10_share_16 1 rfl ?_
    refine pz_iconst (v := (3 : Int32)) hC dX10_share_17 (by decide) ?_
    refine pz_Vi (As := [.int p1, .int (3 : Int32)]) hC hK dX10_share_18 py_X10_its pv_X10_its lk_X10_56 hf (fun _ h => mX10_its h) rfl rfl (Nat.le_of_ble_eq_true rfl) ⟨by decide, by decide⟩ ⟨Nat.le_of_ble_eq_true rfl, Nat.le_of_ble_eq_true rfl⟩ (fun x3 hf => ?_)
    refine pz_aload_n hC dX10_share_21 0 rfl ?_
    refine pz_iload_n hC dX10_share_22 1 rfl ?_
    refine pz_Vi (As := [.int p1]) hC hK dX10_share_23 py_X10_wedIn pv_X10_wedIn lk_X10_98 hf (fun _ h => mX10_wedIn h) rfl rfl (Nat.le_of_ble_eq_true rfl) ⟨by decide, by decide⟩ ⟨Nat.le_of_ble_eq_true rfl, Nat.le_of_ble_eq_true rfl⟩ (fun x4 hf => ?_)
    refine pz_imul hC dX10_share_26 ?_
    refine pz_istore_n hC dX10_share_27 (by decide) rfl ?_
    refine pz_iload_n hC dX10_share_28 0 rfl ?_
    refine pz_if_ne hC dX10_share_29 hf (fun _ hf => ?_) (fun _ hf => ?_)
    · refine pz_sipush (v := (1000 : Int32)) hC dX10_share_36 (by decide) ?_
      refine pz_aload_n hC dX10_share_39 1 rfl ?_
      refine pz_Vi (As := []) hC hK dX10_share_40 py_X10_served pv_X10_served lk_X10_70 hf (fun _ h => mX10_served h) rfl rfl (Nat.le_of_ble_eq_true rfl) ⟨by decide, by decide⟩ ⟨Nat.le_of_ble_eq_true rfl, Nat.le_of_ble_eq_true rfl⟩ (fun x5 hf => ?_)
      refine pz_imul hC dX10_share_43 ?_
      refine pz_sub [3, 0] rfl ?_
      exact tX10_share_44 hC hK hf
    · refine pz_iconst (v := (1 : Int32)) hC dX10_share_32 (by decide) ?_
      refine pz_goto hC dX10_share_33 ?_
      refine pz_sub [3, 0] rfl ?_
      exact tX10_share_44 hC hK hf
  · refine pz_iconst (v := ((-1) : Int32)) hC dX10_share_13 (by decide) ?_
    exact pz_iretw hC hK dX10_share_14 hf
def fX10_happensIn_66 (f : pz_H) (l0 : Nat) (l4 : Int32) (l5 : Int32) : Option pz_H :=
  (pz_gR f l0 9 11).bind fun v1 =>
  (pz_tI f v1 0 l5 l4).bind fun f2 =>
  (pz_gI f2 l0 9 12).bind fun v3 =>
  (pz_sV f2 l0 9 12 (.int (v3 + (1 : Int32)))).bind fun f4 =>
  some f4
theorem tX10_happensIn_66 {G : pz_G} {C : pz_C} {f : pz_H} {l0 : Nat} {l4 : Int32} {l5 : Int32} {r : pz_H} (hC : pz_OK G C cX10_happensIn 6 RX10) (hK : pz_K C none 0 0 0 0) (hf : fX10_happensIn_66 f l0 l4 l5 = some r) : pz_W G C 6 66 [(0, .ref l0), (4, .int l4), (5, .int l5)] [] f 0 0 (pz_Q G C none r 0 0) := by
  unfold fX10_happensIn_66 at hf
  refine pz_aload_n hC dX10_happensIn_66 0 rfl ?_
  refine pz_getR hC dX10_happensIn_67 fa_X10_35 hf (fun v1 hf => ?_)
  refine pz_iload hC dX10_happensIn_70 2 rfl ?_
  refine pz_iload hC dX10_happensIn_72 1 rfl ?_
  refine pz_iast hC dX10_happensIn_74 hf (fun f2 hf => ?_)
  refine pz_aload_n hC dX10_happensIn_75 0 rfl ?_
  refine pz_dup hC dX10_happensIn_76 rfl ?_
  refine pz_getI hC dX10_happensIn_77 fa_X10_178 hf (fun v3 hf => ?_)
  refine pz_iconst (v := (1 : Int32)) hC dX10_happensIn_80 (by decide) ?_
  refine pz_iadd hC dX10_happensIn_81 ?_
  refine pz_putV hC dX10_happensIn_82 fp_X10_178 rfl rfl hf (fun f4 hf => ?_)
  exact pz_vret hC hK dX10_happensIn_85 hf
def fX10_happensIn_25b (k25 : pz_H → Nat → Int32 → Int32 → Option pz_H) (f : pz_H) (l0 : Nat) (l4 : Int32) (l5 : Int32) : Option pz_H :=
  if l5 ≤ 0 then fX10_happensIn_66 f l0 l4 l5 else
  (pz_gR f l0 9 11).bind fun v1 =>
  (pz_aI f v1 0 ((l5 - (1 : Int32)))).bind fun v2 =>
  if v2 ≤ l4 then fX10_happensIn_66 f l0 l4 l5 else
  (pz_gR f l0 9 11).bind fun v3 =>
  (pz_gR f l0 9 11).bind fun v4 =>
  (pz_aI f v4 0 ((l5 - (1 : Int32)))).bind fun v5 =>
  (pz_tI f v3 0 l5 v5).bind fun f6 =>
  k25 f6 l0 l4 ((l5 + (-1)))
theorem tX10_happensIn_25b {G : pz_G} {C : pz_C} {f : pz_H} {k25 : pz_H → Nat → Int32 → Int32 → Option pz_H} {l0 : Nat} {l4 : Int32} {l5 : Int32} {r : pz_H} (hC : pz_OK G C cX10_happensIn 6 RX10) (hK : pz_K C none 0 0 0 0) (hk25 : ∀ (g : pz_H) (a0 : Nat) (a4 : Int32) (a5 : Int32), k25 g a0 a4 a5 = some r → pz_W G C 6 25 [(0, .ref a0), (4, .int a4), (5, .int a5)] [] g 0 0 (pz_Q G C none r 0 0)) (hf : fX10_happensIn_25b k25 f l0 l4 l5 = some r) : pz_W G C 6 25 [(0, .ref l0), (4, .int l4), (5, .int l5)] [] f 0 0 (pz_Q G C none r 0 0) := by
  unfold fX10_happensIn_25b at hf
  refine pz_iload hC dX10_happensIn_25 2 rfl ?_
  refine pz_if_le hC dX10_happensIn_27 hf (fun _ hf => ?_) (fun _ hf => ?_)
  · exact tX10_happensIn_66 hC hK hf
  · refine pz_aload_n hC dX10_happensIn_30 0 rfl ?_
    refine pz_getR hC dX10_happensIn_31 fa_X10_35 hf (fun v1 hf => ?_)
    refine pz_iload hC dX10_happensIn_34 2 rfl ?_
    refine pz_iconst (v := (1 : Int32)) hC dX10_happensIn_36 (by decide) ?_
    refine pz_isub hC dX10_happensIn_37 ?_
    refine pz_iald hC dX10_happensIn_38 hf (fun v2 hf => ?_)
    refine pz_iload hC dX10_happensIn_39 1 rfl ?_
    refine pz_icmp_le hC dX10_happensIn_41 hf (fun _ hf => ?_) (fun _ hf => ?_)
    · exact tX10_happensIn_66 hC hK hf
    · refine pz_aload_n hC dX10_happensIn_44 0 rfl ?_
      refine pz_getR hC dX10_happensIn_45 fa_X10_35 hf (fun v3 hf => ?_)
      refine pz_iload hC dX10_happensIn_48 2 rfl ?_
      refine pz_aload_n hC dX10_happensIn_50 0 rfl ?_
      refine pz_getR hC dX10_happensIn_51 fa_X10_35 hf (fun v4 hf => ?_)
      refine pz_iload hC dX10_happensIn_54 2 rfl ?_
      refine pz_iconst (v := (1 : Int32)) hC dX10_happensIn_56 (by decide) ?_
      refine pz_isub hC dX10_happensIn_57 ?_
      refine pz_iald hC dX10_happensIn_58 hf (fun v5 hf => ?_)
      refine pz_iast hC dX10_happensIn_59 hf (fun f6 hf => ?_)
      refine pz_iinc (v := (l5 + (-1))) hC dX10_happensIn_60 2 rfl rfl (by decide) rfl ?_
      refine pz_goto hC dX10_happensIn_63 ?_
      refine pz_sub [1, 2, 0] rfl ?_
      exact hk25 _ _ _ _ hf
def fX10_happensIn_25 : Nat → pz_H → Nat → Int32 → Int32 → Option pz_H
  | 0, _, _, _, _ => none
  | n + 1, f, l0, l4, l5 => fX10_happensIn_25b (fX10_happensIn_25 n) f l0 l4 l5
theorem tX10_happensIn_25 {G : pz_G} {C : pz_C} {r : pz_H} (hC : pz_OK G C cX10_happensIn 6 RX10) (hK : pz_K C none 0 0 0 0) : ∀ (N : Nat) (f : pz_H) (l0 : Nat) (l4 : Int32) (l5 : Int32), fX10_happensIn_25 N f l0 l4 l5 = some r → pz_W G C 6 25 [(0, .ref l0), (4, .int l4), (5, .int l5)] [] f 0 0 (pz_Q G C none r 0 0) := by
  intro N
  induction N with
  | zero => intro f l0 l4 l5 hf; cases hf
  | succ N ih => intro f l0 l4 l5 hf; exact tX10_happensIn_25b hC hK (fun f l0 l4 l5 hf => ih f l0 l4 l5 hf) hf
def fnX10_happensIn (f : pz_H) (a0 : Nat) (p1 : Int32) (p2 : Int32) (p3 : Int32) : Option pz_H :=
  (pz_is f a0 9).bind fun _ =>
  if p1 = ((-1) : Int32) then some f else
  (pz_gI f a0 9 12).bind fun v1 =>
  fX10_happensIn_25 pz_F f a0 (((((100 : Int32) * p1) + ((10 : Int32) * p2)) + p3)) v1
theorem mX10_happensIn {l : Launch} {G : pz_G} {f : pz_H} {a0 : Nat} {p1 : Int32} {p2 : Int32} {p3 : Int32} {r : pz_H} (hf : fnX10_happensIn f a0 p1 p2 p3 = some r) : pz_Met l G yX10_happensIn cX10_happensIn 6 none 0 0 0 0 [.ref a0, .int p1, .int p2, .int p3] f none r ∧ pz_is f a0 9 = some () := by
  unfold fnX10_happensIn at hf
  obtain ⟨_, h0, hf⟩ := pz_bd hf
  refine ⟨pz_enter (by decide +kernel) (Nat.le_of_ble_eq_true rfl) (fun C hl hC hK hnm => ?_), h0⟩
  subst hl
  refine pz_sub (lv' := [(0, .ref a0), (1, .int p1), (2, .int p2), (3, .int p3)]) [0, 1, 2, 3] rfl ?_
  refine pz_iload_n hC dX10_happensIn_0 1 rfl ?_
  refine pz_iconst (v := ((-1) : Int32)) hC dX10_happensIn_1 (by decide) ?_
  refine pz_icmp_ne hC dX10_happensIn_2 hf (fun _ hf => ?_) (fun _ hf => ?_)
  · refine pz_bipush (v := (100 : Int32)) hC dX10_happensIn_6 (by decide) ?_
    refine pz_iload_n hC dX10_happensIn_8 1 rfl ?_
    refine pz_imul hC dX10_happensIn_9 ?_
    refine pz_bipush (v := (10 : Int32)) hC dX10_happensIn_10 (by decide) ?_
    refine pz_iload_n hC dX10_happensIn_12 2 rfl ?_
    refine pz_imul hC dX10_happensIn_13 ?_
    refine pz_iadd hC dX10_happensIn_14 ?_
    refine pz_iload_n hC dX10_happensIn_15 3 rfl ?_
    refine pz_iadd hC dX10_happensIn_16 ?_
    refine pz_istore hC dX10_happensIn_17 (by decide) rfl ?_
    refine pz_aload_n hC dX10_happensIn_19 1 rfl ?_
    refine pz_getI hC dX10_happensIn_20 fa_X10_178 hf (fun v1 hf => ?_)
    refine pz_istore hC dX10_happensIn_23 (by decide) rfl ?_
    refine pz_sub [2, 1, 0] rfl ?_
    exact tX10_happensIn_25 hC hK _ _ _ _ _ hf
  · exact pz_vret hC hK dX10_happensIn_5 hf
def fX10_happens_106 (k54 : pz_H → Nat → Int32 → Int32 → Option (Int32 × pz_H)) (f : pz_H) (l0 : Nat) (l1 : Int32) (l2 : Int32) (s0 : Int32) (s1 : Nat) : Option (Int32 × pz_H) :=
  (fnX10_happensIn f s1 s0 ((5 : Int32)) l2).bind fun x1 =>
  (fnX10_its x1 l0 l2 ((7 : Int32))).bind fun x2 =>
  (fnX10_happensIn x1 l0 x2 ((6 : Int32)) l2).bind fun x3 =>
  k54 x3 l0 l1 ((l2 + 1))
theorem tX10_happens_106 {G : pz_G} {C : pz_C} {f : pz_H} {k54 : pz_H → Nat → Int32 → Int32 → Option (Int32 × pz_H)} {l0 : Nat} {l1 : Int32} {l2 : Int32} {s0 : Int32} {s1 : Nat} {r : (Int32 × pz_H)} (hC : pz_OK G C cX10_happens 3 RX10) (hK : pz_K C (some .int) 2 43 0 0) (hk54 : ∀ (g : pz_H) (a0 : Nat) (a1 : Int32) (a2 : Int32), k54 g a0 a1 a2 = some r → pz_W G C 3 54 [(0, .ref a0), (1, .int a1), (2, .int a2)] [] g 0 0 (pz_Q G C (some (.int r.1)) r.2 0 0)) (hf : fX10_happens_106 k54 f l0 l1 l2 s0 s1 = some r) : pz_W G C 3 106 [(0, .ref l0), (1, .int l1), (2, .int l2)] [.int s0, .ref s1] f 0 0 (pz_Q G C (some (.int r.1)) r.2 0 0) := by
  unfold fX10_happens_106 at hf
  refine pz_iconst (v := (5 : Int32)) hC dX10_happens_106 (by decide) ?_
  refine pz_iload_n hC dX10_happens_107 2 rfl ?_
  refine pz_Vv (As := [.int s0, .int (5 : Int32), .int l2]) hC hK dX10_happens_108 py_X10_happensIn pv_X10_happensIn lk_X10_181 hf (fun _ h => mX10_happensIn h) rfl rfl (Nat.le_of_ble_eq_true rfl) ⟨by decide, by decide⟩ ⟨Nat.le_of_ble_eq_true rfl, Nat.le_of_ble_eq_true rfl⟩ (fun x1 hf => ?_)
  refine pz_aload_n hC dX10_happens_111 0 rfl ?_
  refine pz_aload_n hC dX10_happens_112 0 rfl ?_
  refine pz_iload_n hC dX10_happens_113 2 rfl ?_
  refine pz_bipush (v := (7 : Int32)) hC dX10_happens_114 (by decide) ?_
  refine pz_Vi (As := [.int l2, .int (7 : Int32)]) hC hK dX10_happens_116 py_X10_its pv_X10_its lk_X10_56 hf (fun _ h => mX10_its h) rfl rfl (Nat.le_of_ble_eq_true rfl) ⟨by decide, by decide⟩ ⟨Nat.le_of_ble_eq_true rfl, Nat.le_of_ble_eq_true rfl⟩ (fun x2 hf => ?_)
  refine pz_bipush (v := (6 : Int32)) hC dX10_happens_119 (by decide) ?_
  refine pz_iload_n hC dX10_happens_121 2 rfl ?_
  refine pz_Vv (As := [.int x2, .int (6 : Int32), .int l2]) hC hK dX10_happens_122 py_X10_happensIn pv_X10_happensIn lk_X10_181 hf (fun _ h => mX10_happensIn h) rfl rfl (Nat.le_of_ble_eq_true rfl) ⟨by decide, by decide⟩ ⟨Nat.le_of_ble_eq_true rfl, Nat.le_of_ble_eq_true rfl⟩ (fun x3 hf => ?_)
  refine pz_iinc (v := (l2 + 1)) hC dX10_happens_125 2 rfl rfl (by decide) rfl ?_
  refine pz_goto hC dX10_happens_128 ?_
  refine pz_sub [1, 2, 0] rfl ?_
  exact hk54 _ _ _ _ hf
def fX10_happens_180 (f : pz_H) (s0 : Int32) : Option (Int32 × pz_H) :=
  some (s0, f)
theorem tX10_happens_180 {G : pz_G} {C : pz_C} {f : pz_H} {s0 : Int32} {r : (Int32 × pz_H)} (hC : pz_OK G C cX10_happens 3 RX10) (hK : pz_K C (some .int) 2 43 0 0) (hf : fX10_happens_180 f s0 = some r) : pz_W G C 3 180 [] [.int s0] f 0 0 (pz_Q G C (some (.int r.1)) r.2 0 0) := by
  unfold fX10_happens_180 at hf
  exact pz_iretw hC hK dX10_happens_180 hf
def fX10_happens_54b (k54 : pz_H → Nat → Int32 → Int32 → Option (Int32 × pz_H)) (f : pz_H) (l0 : Nat) (l1 : Int32) (l2 : Int32) : Option (Int32 × pz_H) :=
  (pz_gR f l0 9 1).bind fun v1 =>
  (pz_aI f v1 0 ((4 : Int32))).bind fun v2 =>
  if v2 ≤ l2 then (pz_gR f l0 9 1).bind fun v3 =>
  (pz_aI f v3 0 ((1 : Int32))).bind fun v4 =>
  (fnX10_happensIn f l0 v4 ((4 : Int32)) ((0 : Int32))).bind fun x5 =>
  (pz_gR x5 l0 9 1).bind fun v6 =>
  (pz_aI x5 v6 0 ((2 : Int32))).bind fun v7 =>
  (fnX10_happensIn x5 l0 v7 ((7 : Int32)) ((0 : Int32))).bind fun x8 =>
  (pz_gI x8 l0 9 12).bind fun v9 =>
  (fnX10_in l1 ((0 : Int32)) ((v9 - (1 : Int32)))).bind fun x10 =>
  if x10 = 0 then fX10_happens_180 x8 (((-1) : Int32)) else
  (pz_gR x8 l0 9 11).bind fun v11 =>
  (pz_aI x8 v11 0 l1).bind fun v12 =>
  fX10_happens_180 x8 v12 else
  (fnX10_its f l0 l2 ((1 : Int32))).bind fun x13 =>
  (fnX10_happensIn f l0 x13 ((2 : Int32)) l2).bind fun x14 =>
  (fnX10_its x14 l0 l2 ((2 : Int32))).bind fun x15 =>
  (fnX10_happensIn x14 l0 x15 ((3 : Int32)) l2).bind fun x16 =>
  (fnX10_isParted x16 l0 l2).bind fun x17 =>
  if x17 = 0 then fX10_happens_106 k54 x16 l0 l1 l2 (((-1) : Int32)) l0 else
  (fnX10_begin x16 l0 l2).bind fun x18 =>
  fX10_happens_106 k54 x16 l0 l1 l2 x18 l0
theorem tX10_happens_54b {G : pz_G} {C : pz_C} {f : pz_H} {k54 : pz_H → Nat → Int32 → Int32 → Option (Int32 × pz_H)} {l0 : Nat} {l1 : Int32} {l2 : Int32} {r : (Int32 × pz_H)} (hC : pz_OK G C cX10_happens 3 RX10) (hK : pz_K C (some .int) 2 43 0 0) (hk54 : ∀ (g : pz_H) (a0 : Nat) (a1 : Int32) (a2 : Int32), k54 g a0 a1 a2 = some r → pz_W G C 3 54 [(0, .ref a0), (1, .int a1), (2, .int a2)] [] g 0 0 (pz_Q G C (some (.int r.1)) r.2 0 0)) (hf : fX10_happens_54b k54 f l0 l1 l2 = some r) : pz_W G C 3 54 [(0, .ref l0), (1, .int l1), (2, .int l2)] [] f 0 0 (pz_Q G C (some (.int r.1)) r.2 0 0) := by
  unfold fX10_happens_54b at hf
  refine pz_iload_n hC dX10_happens_54 2 rfl ?_
  refine pz_aload_n hC dX10_happens_55 0 rfl ?_
  refine pz_getR hC dX10_happens_56 fa_X10_7 hf (fun v1 hf => ?_)
  refine pz_iconst (v := (4 : Int32)) hC dX10_happens_59 (by decide) ?_
  refine pz_iald hC dX10_happens_60 hf (fun v2 hf => ?_)
  refine pz_icmp_ge hC dX10_happens_61 hf (fun _ hf => ?_) (fun _ hf => ?_)
  · refine pz_aload_n hC dX10_happens_131 0 rfl ?_
    refine pz_aload_n hC dX10_happens_132 0 rfl ?_
    refine pz_getR hC dX10_happens_133 fa_X10_7 hf (fun v3 hf => ?_)
    refine pz_iconst (v := (1 : Int32)) hC dX10_happens_136 (by decide) ?_
    refine pz_iald hC dX10_happens_137 hf (fun v4 hf => ?_)
    refine pz_iconst (v := (4 : Int32)) hC dX10_happens_138 (by decide) ?_
    refine pz_iconst (v := (0 : Int32)) hC dX10_happens_139 (by decide) ?_
    refine pz_Vv (As := [.int v4, .int (4 : Int32), .int (0 : Int32)]) hC hK dX10_happens_140 py_X10_happensIn pv_X10_happensIn lk_X10_181 hf (fun _ h => mX10_happensIn h) rfl rfl (Nat.le_of_ble_eq_true rfl) ⟨by decide, by decide⟩ ⟨Nat.le_of_ble_eq_true rfl, Nat.le_of_ble_eq_true rfl⟩ (fun x5 hf => ?_)
    refine pz_aload_n hC dX10_happens_143 0 rfl ?_
    refine pz_aload_n hC dX10_happens_144 0 rfl ?_
    refine pz_getR hC dX10_happens_145 fa_X10_7 hf (fun v6 hf => ?_)
    refine pz_iconst (v := (2 : Int32)) hC dX10_happens_148 (by decide) ?_
    refine pz_iald hC dX10_happens_149 hf (fun v7 hf => ?_)
    refine pz_bipush (v := (7 : Int32)) hC dX10_happens_150 (by decide) ?_
    refine pz_iconst (v := (0 : Int32)) hC dX10_happens_152 (by decide) ?_
    refine pz_Vv (As := [.int v7, .int (7 : Int32), .int (0 : Int32)]) hC hK dX10_happens_153 py_X10_happensIn pv_X10_happensIn lk_X10_181 hf (fun _ h => mX10_happensIn h) rfl rfl (Nat.le_of_ble_eq_true rfl) ⟨by decide, by decide⟩ ⟨Nat.le_of_ble_eq_true rfl, Nat.le_of_ble_eq_true rfl⟩ (fun x8 hf => ?_)
    refine pz_iload_n hC dX10_happens_156 1 rfl ?_
    refine pz_iconst (v := (0 : Int32)) hC dX10_happens_157 (by decide) ?_
    refine pz_aload_n hC dX10_happens_158 0 rfl ?_
    refine pz_getI hC dX10_happens_159 fa_X10_178 hf (fun v9 hf => ?_)
    refine pz_iconst (v := (1 : Int32)) hC dX10_happens_162 (by decide) ?_
    refine pz_isub hC dX10_happens_163 ?_
    refine pz_Si (As := [.int l1, .int (0 : Int32), .int (v9 - (1 : Int32))]) hC hK dX10_happens_164 py_X10_in ps_X10_in lk_X10_52 hf (fun _ h => mX10_in h) rfl rfl (Nat.le_of_ble_eq_true rfl) ⟨by decide, by decide⟩ ⟨by decide, by decide⟩ (fun x10 hf => ?_)
    refine pz_if_eq hC dX10_happens_167 hf (fun _ hf => ?_) (fun _ hf => ?_)
    · refine pz_iconst (v := ((-1) : Int32)) hC dX10_happens_179 (by decide) ?_
      refine pz_sub [] rfl ?_
      exact tX10_happens_180 hC hK hf
    · refine pz_aload_n hC dX10_happens_170 0 rfl ?_
      refine pz_getR hC dX10_happens_171 fa_X10_35 hf (fun v11 hf => ?_)
      refine pz_iload_n hC dX10_happens_174 1 rfl ?_
      refine pz_iald hC dX10_happens_175 hf (fun v12 hf => ?_)
      refine pz_goto hC dX10_happens_176 ?_
      refine pz_sub [] rfl ?_
      exact tX10_happens_180 hC hK hf
  · refine pz_aload_n hC dX10_happens_64 0 rfl ?_
    refine pz_aload_n hC dX10_happens_65 0 rfl ?_
    refine pz_iload_n hC dX10_happens_66 2 rfl ?_
    refine pz_iconst (v := (1 : Int32)) hC dX10_happens_67 (by decide) ?_
    refine pz_Vi (As := [.int l2, .int (1 : Int32)]) hC hK dX10_happens_68 py_X10_its pv_X10_its lk_X10_56 hf (fun _ h => mX10_its h) rfl rfl (Nat.le_of_ble_eq_true rfl) ⟨by decide, by decide⟩ ⟨Nat.le_of_ble_eq_true rfl, Nat.le_of_ble_eq_true rfl⟩ (fun x13 hf => ?_)
    refine pz_iconst (v := (2 : Int32)) hC dX10_happens_71 (by decide) ?_
    refine pz_iload_n hC dX10_happens_72 2 rfl ?_
    refine pz_Vv (As := [.int x13, .int (2 : Int32), .int l2]) hC hK dX10_happens_73 py_X10_happensIn pv_X10_happensIn lk_X10_181 hf (fun _ h => mX10_happensIn h) rfl rfl (Nat.le_of_ble_eq_true rfl) ⟨by decide, by decide⟩ ⟨Nat.le_of_ble_eq_true rfl, Nat.le_of_ble_eq_true rfl⟩ (fun x14 hf => ?_)
    refine pz_aload_n hC dX10_happens_76 0 rfl ?_
    refine pz_aload_n hC dX10_happens_77 0 rfl ?_
    refine pz_iload_n hC dX10_happens_78 2 rfl ?_
    refine pz_iconst (v := (2 : Int32)) hC dX10_happens_79 (by decide) ?_
    refine pz_Vi (As := [.int l2, .int (2 : Int32)]) hC hK dX10_happens_80 py_X10_its pv_X10_its lk_X10_56 hf (fun _ h => mX10_its h) rfl rfl (Nat.le_of_ble_eq_true rfl) ⟨by decide, by decide⟩ ⟨Nat.le_of_ble_eq_true rfl, Nat.le_of_ble_eq_true rfl⟩ (fun x15 hf => ?_)
    refine pz_iconst (v := (3 : Int32)) hC dX10_happens_83 (by decide) ?_
    refine pz_iload_n hC dX10_happens_84 2 rfl ?_
    refine pz_Vv (As := [.int x15, .int (3 : Int32), .int l2]) hC hK dX10_happens_85 py_X10_happensIn pv_X10_happensIn lk_X10_181 hf (fun _ h => mX10_happensIn h) rfl rfl (Nat.le_of_ble_eq_true rfl) ⟨by decide, by decide⟩ ⟨Nat.le_of_ble_eq_true rfl, Nat.le_of_ble_eq_true rfl⟩ (fun x16 hf => ?_)
    refine pz_aload_n hC dX10_happens_88 0 rfl ?_
    refine pz_aload_n hC dX10_happens_89 0 rfl ?_
    refine pz_iload_n hC dX10_happens_90 2 rfl ?_
    refine pz_Vi (As := [.int l2]) hC hK dX10_happens_91 py_X10_isParted pv_X10_isParted lk_X10_91 hf (fun _ h => mX10_isParted h) rfl rfl (Nat.le_of_ble_eq_true rfl) ⟨by decide, by decide⟩ ⟨Nat.le_of_ble_eq_true rfl, Nat.le_of_ble_eq_true rfl⟩ (fun x17 hf => ?_)
    refine pz_if_eq hC dX10_happens_94 hf (fun _ hf => ?_) (fun _ hf => ?_)
    · refine pz_iconst (v := ((-1) : Int32)) hC dX10_happens_105 (by decide) ?_
      exact tX10_happens_106 hC hK hk54 hf
    · refine pz_aload_n hC dX10_happens_97 0 rfl ?_
      refine pz_iload_n hC dX10_happens_98 2 rfl ?_
      refine pz_Vi (As := [.int l2]) hC hK dX10_happens_99 py_X10_begin pv_X10_begin lk_X10_121 hf (fun _ h => mX10_begin h) rfl rfl (Nat.le_of_ble_eq_true rfl) ⟨by decide, by decide⟩ ⟨Nat.le_of_ble_eq_true rfl, Nat.le_of_ble_eq_true rfl⟩ (fun x18 hf => ?_)
      refine pz_goto hC dX10_happens_102 ?_
      exact tX10_happens_106 hC hK hk54 hf
def fX10_happens_54 : Nat → pz_H → Nat → Int32 → Int32 → Option (Int32 × pz_H)
  | 0, _, _, _, _ => none
  | n + 1, f, l0, l1, l2 => fX10_happens_54b (fX10_happens_54 n) f l0 l1 l2
theorem tX10_happens_54 {G : pz_G} {C : pz_C} {r : (Int32 × pz_H)} (hC : pz_OK G C cX10_happens 3 RX10) (hK : pz_K C (some .int) 2 43 0 0) : ∀ (N : Nat) (f : pz_H) (l0 : Nat) (l1 : Int32) (l2 : Int32), fX10_happens_54 N f l0 l1 l2 = some r → pz_W G C 3 54 [(0, .ref l0), (1, .int l1), (2, .int l2)] [] f 0 0 (pz_Q G C (some (.int r.1)) r.2 0 0) := by
  intro N
  induction N with
  | zero => intro f l0 l1 l2 hf; cases hf
  | succ N ih => intro f l0 l1 l2 hf; exact tX10_happens_54b hC hK (fun f l0 l1 l2 hf => ih f l0 l1 l2 hf) hf
def fX10_happens_12b (k12 : pz_H → Nat → Int32 → Int32 → Option (Int32 × pz_H)) (f : pz_H) (l0 : Nat) (l1 : Int32) (l2 : Int32) : Option (Int32 × pz_H) :=
  (pz_gR f l0 9 1).bind fun v1 =>
  (pz_aI f v1 0 ((3 : Int32))).bind fun v2 =>
  if v2 ≤ l2 then fX10_happens_54 pz_F f l0 l1 ((0 : Int32)) else
  (fnX10_spanOf f l0 l2 ((0 : Int32))).bind fun x3 =>
  (fnX10_happensIn f l0 x3 ((0 : Int32)) l2).bind fun x4 =>
  (fnX10_spanOf x4 l0 l2 ((1 : Int32))).bind fun x5 =>
  (fnX10_happensIn x4 l0 x5 ((1 : Int32)) l2).bind fun x6 =>
  k12 x6 l0 l1 ((l2 + 1))
theorem tX10_happens_12b {G : pz_G} {C : pz_C} {f : pz_H} {k12 : pz_H → Nat → Int32 → Int32 → Option (Int32 × pz_H)} {l0 : Nat} {l1 : Int32} {l2 : Int32} {r : (Int32 × pz_H)} (hC : pz_OK G C cX10_happens 3 RX10) (hK : pz_K C (some .int) 2 43 0 0) (hk12 : ∀ (g : pz_H) (a0 : Nat) (a1 : Int32) (a2 : Int32), k12 g a0 a1 a2 = some r → pz_W G C 3 12 [(0, .ref a0), (1, .int a1), (2, .int a2)] [] g 0 0 (pz_Q G C (some (.int r.1)) r.2 0 0)) (hf : fX10_happens_12b k12 f l0 l1 l2 = some r) : pz_W G C 3 12 [(0, .ref l0), (1, .int l1), (2, .int l2)] [] f 0 0 (pz_Q G C (some (.int r.1)) r.2 0 0) := by
  unfold fX10_happens_12b at hf
  refine pz_iload_n hC dX10_happens_12 2 rfl ?_
  refine pz_aload_n hC dX10_happens_13 0 rfl ?_
  refine pz_getR hC dX10_happens_14 fa_X10_7 hf (fun v1 hf => ?_)
  refine pz_iconst (v := (3 : Int32)) hC dX10_happens_17 (by decide) ?_
  refine pz_iald hC dX10_happens_18 hf (fun v2 hf => ?_)
  refine pz_icmp_ge hC dX10_happens_19 hf (fun _ hf => ?_) (fun _ hf => ?_)
  · refine pz_iconst (v := (0 : Int32)) hC dX10_happens_52 (by decide) ?_
    refine pz_istore_n hC dX10_happens_53 (by decide) rfl ?_
    refine pz_sub [1, 2, 0] rfl ?_
    exact tX10_happens_54 hC hK _ _ _ _ _ hf
  · refine pz_aload_n hC dX10_happens_22 0 rfl ?_
    refine pz_aload_n hC dX10_happens_23 0 rfl ?_
    refine pz_iload_n hC dX10_happens_24 2 rfl ?_
    refine pz_iconst (v := (0 : Int32)) hC dX10_happens_25 (by decide) ?_
    refine pz_Vi (As := [.int l2, .int (0 : Int32)]) hC hK dX10_happens_26 py_X10_spanOf pv_X10_spanOf lk_X10_60 hf (fun _ h => mX10_spanOf h) rfl rfl (Nat.le_of_ble_eq_true rfl) ⟨by decide, by decide⟩ ⟨Nat.le_of_ble_eq_true rfl, Nat.le_of_ble_eq_true rfl⟩ (fun x3 hf => ?_)
    refine pz_iconst (v := (0 : Int32)) hC dX10_happens_29 (by decide) ?_
    refine pz_iload_n hC dX10_happens_30 2 rfl ?_
    refine pz_Vv (As := [.int x3, .int (0 : Int32), .int l2]) hC hK dX10_happens_31 py_X10_happensIn pv_X10_happensIn lk_X10_181 hf (fun _ h => mX10_happensIn h) rfl rfl (Nat.le_of_ble_eq_true rfl) ⟨by decide, by decide⟩ ⟨Nat.le_of_ble_eq_true rfl, Nat.le_of_ble_eq_true rfl⟩ (fun x4 hf => ?_)
    refine pz_aload_n hC dX10_happens_34 0 rfl ?_
    refine pz_aload_n hC dX10_happens_35 0 rfl ?_
    refine pz_iload_n hC dX10_happens_36 2 rfl ?_
    refine pz_iconst (v := (1 : Int32)) hC dX10_happens_37 (by decide) ?_
    refine pz_Vi (As := [.int l2, .int (1 : Int32)]) hC hK dX10_happens_38 py_X10_spanOf pv_X10_spanOf lk_X10_60 hf (fun _ h => mX10_spanOf h) rfl rfl (Nat.le_of_ble_eq_true rfl) ⟨by decide, by decide⟩ ⟨Nat.le_of_ble_eq_true rfl, Nat.le_of_ble_eq_true rfl⟩ (fun x5 hf => ?_)
    refine pz_iconst (v := (1 : Int32)) hC dX10_happens_41 (by decide) ?_
    refine pz_iload_n hC dX10_happens_42 2 rfl ?_
    refine pz_Vv (As := [.int x5, .int (1 : Int32), .int l2]) hC hK dX10_happens_43 py_X10_happensIn pv_X10_happensIn lk_X10_181 hf (fun _ h => mX10_happensIn h) rfl rfl (Nat.le_of_ble_eq_true rfl) ⟨by decide, by decide⟩ ⟨Nat.le_of_ble_eq_true rfl, Nat.le_of_ble_eq_true rfl⟩ (fun x6 hf => ?_)
    refine pz_iinc (v := (l2 + 1)) hC dX10_happens_46 2 rfl rfl (by decide) rfl ?_
    refine pz_goto hC dX10_happens_49 ?_
    refine pz_sub [1, 2, 0] rfl ?_
    exact hk12 _ _ _ _ hf
def fX10_happens_12 : Nat → pz_H → Nat → Int32 → Int32 → Option (Int32 × pz_H)
  | 0, _, _, _, _ => none
  | n + 1, f, l0, l1, l2 => fX10_happens_12b (fX10_happens_12 n) f l0 l1 l2
theorem tX10_happens_12 {G : pz_G} {C : pz_C} {r : (Int32 × pz_H)} (hC : pz_OK G C cX10_happens 3 RX10) (hK : pz_K C (some .int) 2 43 0 0) : ∀ (N : Nat) (f : pz_H) (l0 : Nat) (l1 : Int32) (l2 : Int32), fX10_happens_12 N f l0 l1 l2 = some r → pz_W G C 3 12 [(0, .ref l0), (1, .int l1), (2, .int l2)] [] f 0 0 (pz_Q G C (some (.int r.1)) r.2 0 0) := by
  intro N
  induction N with
  | zero => intro f l0 l1 l2 hf; cases hf
  | succ N ih => intro f l0 l1 l2 hf; exact tX10_happens_12b hC hK (fun f l0 l1 l2 hf => ih f l0 l1 l2 hf) hf
def fnX10_happens (f : pz_H) (a0 : Nat) (p1 : Int32) : Option (Int32 × pz_H) :=
  (pz_is f a0 9).bind fun _ =>
  (pz_sV f a0 9 0 (.int (0 : Int32))).bind fun f1 =>
  (pz_sV f1 a0 9 12 (.int (0 : Int32))).bind fun f2 =>
  fX10_happens_12 pz_F f2 a0 p1 ((0 : Int32))
theorem mX10_happens {l : Launch} {G : pz_G} {f : pz_H} {a0 : Nat} {p1 : Int32} {r : (Int32 × pz_H)} (hf : fnX10_happens f a0 p1 = some r) : pz_Met l G yX10_happens cX10_happens 3 (some .int) 2 43 0 0 [.ref a0, .int p1] f (some (.int r.1)) r.2 ∧ pz_is f a0 9 = some () := by
  unfold fnX10_happens at hf
  obtain ⟨_, h0, hf⟩ := pz_bd hf
  refine ⟨pz_enter (by decide +kernel) (Nat.le_of_ble_eq_true rfl) (fun C hl hC hK hnm => ?_), h0⟩
  subst hl
  refine pz_sub (lv' := [(0, .ref a0), (1, .int p1)]) [0, 1] rfl ?_
  refine pz_aload_n hC dX10_happens_0 0 rfl ?_
  refine pz_iconst (v := (0 : Int32)) hC dX10_happens_1 (by decide) ?_
  refine pz_putV hC dX10_happens_2 fp_X10_48 rfl rfl hf (fun f1 hf => ?_)
  refine pz_aload_n hC dX10_happens_5 0 rfl ?_
  refine pz_iconst (v := (0 : Int32)) hC dX10_happens_6 (by decide) ?_
  refine pz_putV hC dX10_happens_7 fp_X10_178 rfl rfl hf (fun f2 hf => ?_)
  refine pz_iconst (v := (0 : Int32)) hC dX10_happens_10 (by decide) ?_
  refine pz_istore_n hC dX10_happens_11 (by decide) rfl ?_
  refine pz_sub [1, 2, 0] rfl ?_
  exact tX10_happens_12 hC hK _ _ _ _ _ hf
def fX10_lives_18 (f : pz_H) (s0 : Int32) : Option (Int32 × pz_H) :=
  some (s0, f)
theorem tX10_lives_18 {G : pz_G} {C : pz_C} {f : pz_H} {s0 : Int32} {r : (Int32 × pz_H)} (hC : pz_OK G C cX10_lives 2 RX10) (hK : pz_K C (some .int) 1 28 0 0) (hf : fX10_lives_18 f s0 = some r) : pz_W G C 2 18 [] [.int s0] f 0 0 (pz_Q G C (some (.int r.1)) r.2 0 0) := by
  unfold fX10_lives_18 at hf
  exact pz_iretw hC hK dX10_lives_18 hf
def fnX10_lives (f : pz_H) (a0 : Nat) (p1 : Int32) : Option (Int32 × pz_H) :=
  (pz_is f a0 9).bind fun _ =>
  (pz_sV f a0 9 0 (.int (0 : Int32))).bind fun f1 =>
  if 0 ≤ p1 then (fnX10_livesAt f1 a0 p1).bind fun x2 =>
  fX10_lives_18 f1 x2 else
  fX10_lives_18 f1 (((-1) : Int32))
theorem mX10_lives {l : Launch} {G : pz_G} {f : pz_H} {a0 : Nat} {p1 : Int32} {r : (Int32 × pz_H)} (hf : fnX10_lives f a0 p1 = some r) : pz_Met l G yX10_lives cX10_lives 2 (some .int) 1 28 0 0 [.ref a0, .int p1] f (some (.int r.1)) r.2 ∧ pz_is f a0 9 = some () := by
  unfold fnX10_lives at hf
  obtain ⟨_, h0, hf⟩ := pz_bd hf
  refine ⟨pz_enter (by decide +kernel) (Nat.le_of_ble_eq_true rfl) (fun C hl hC hK hnm => ?_), h0⟩
  subst hl
  refine pz_sub (lv' := [(0, .ref a0), (1, .int p1)]) [0, 1] rfl ?_
  refine pz_aload_n hC dX10_lives_0 0 rfl ?_
  refine pz_iconst (v := (0 : Int32)) hC dX10_lives_1 (by decide) ?_
  refine pz_putV hC dX10_lives_2 fp_X10_48 rfl rfl hf (fun f1 hf => ?_)
  refine pz_iload_n hC dX10_lives_5 1 rfl ?_
  refine pz_if_ge hC dX10_lives_6 hf (fun _ hf => ?_) (fun _ hf => ?_)
  · refine pz_aload_n hC dX10_lives_13 0 rfl ?_
    refine pz_iload_n hC dX10_lives_14 1 rfl ?_
    refine pz_Vi (As := [.int p1]) hC hK dX10_lives_15 py_X10_livesAt pv_X10_livesAt lk_X10_106 hf (fun _ h => mX10_livesAt h) rfl rfl (Nat.le_of_ble_eq_true rfl) ⟨by decide, by decide⟩ ⟨Nat.le_of_ble_eq_true rfl, Nat.le_of_ble_eq_true rfl⟩ (fun x2 hf => ?_)
    refine pz_sub [] rfl ?_
    exact tX10_lives_18 hC hK hf
  · refine pz_iconst (v := ((-1) : Int32)) hC dX10_lives_9 (by decide) ?_
    refine pz_goto hC dX10_lives_10 ?_
    refine pz_sub [] rfl ?_
    exact tX10_lives_18 hC hK hf
def fnX10_discount (f : pz_H) (a0 : Nat) (p1 : Int32) : Option (Int32 × pz_H) :=
  (pz_is f a0 9).bind fun _ =>
  (pz_sV f a0 9 0 (.int (0 : Int32))).bind fun f1 =>
  (fnX10_isMonth p1).bind fun x2 =>
  if x2 = 0 then some (((-1) : Int32), f1) else
  (fnX10_laysWholes f1 a0).bind fun x3 =>
  (pz_gR x3 a0 9 7).bind fun v4 =>
  (pz_aL x3 v4 1 p1).bind fun v5 =>
  some (v5.toInt32, x3)
theorem mX10_discount {l : Launch} {G : pz_G} {f : pz_H} {a0 : Nat} {p1 : Int32} {r : (Int32 × pz_H)} (hf : fnX10_discount f a0 p1 = some r) : pz_Met l G yX10_discount cX10_discount 2 (some .int) 6 135 0 0 [.ref a0, .int p1] f (some (.int r.1)) r.2 ∧ pz_is f a0 9 = some () := by
  unfold fnX10_discount at hf
  obtain ⟨_, h0, hf⟩ := pz_bd hf
  refine ⟨pz_enter (by decide +kernel) (Nat.le_of_ble_eq_true rfl) (fun C hl hC hK hnm => ?_), h0⟩
  subst hl
  refine pz_sub (lv' := [(0, .ref a0), (1, .int p1)]) [0, 1] rfl ?_
  refine pz_aload_n hC dX10_discount_0 0 rfl ?_
  refine pz_iconst (v := (0 : Int32)) hC dX10_discount_1 (by decide) ?_
  refine pz_putV hC dX10_discount_2 fp_X10_48 rfl rfl hf (fun f1 hf => ?_)
  refine pz_iload_n hC dX10_discount_5 1 rfl ?_
  refine pz_Si (As := [.int p1]) hC hK dX10_discount_6 py_X10_isMonth ps_X10_isMonth lk_X10_155 hf (fun _ h => mX10_isMonth h) rfl rfl (Nat.le_of_ble_eq_true rfl) ⟨by decide, by decide⟩ ⟨by decide, by decide⟩ (fun x2 hf => ?_)
  refine pz_if_ne hC dX10_discount_9 hf (fun _ hf => ?_) (fun _ hf => ?_)
  · refine pz_aload_n hC dX10_discount_14 0 rfl ?_
    refine pz_Vv (As := []) hC hK dX10_discount_15 py_X10_laysWholes pv_X10_laysWholes lk_X10_95 hf (fun _ h => mX10_laysWholes h) rfl rfl (Nat.le_of_ble_eq_true rfl) ⟨by decide, by decide⟩ ⟨Nat.le_of_ble_eq_true rfl, Nat.le_of_ble_eq_true rfl⟩ (fun x3 hf => ?_)
    refine pz_aload_n hC dX10_discount_18 0 rfl ?_
    refine pz_getR hC dX10_discount_19 fa_X10_23 hf (fun v4 hf => ?_)
    refine pz_iload_n hC dX10_discount_22 1 rfl ?_
    refine pz_lald hC dX10_discount_23 hf (fun v5 hf => ?_)
    refine pz_l2i hC dX10_discount_24 ?_
    exact pz_iretw hC hK dX10_discount_25 hf
  · refine pz_iconst (v := ((-1) : Int32)) hC dX10_discount_12 (by decide) ?_
    exact pz_iretw hC hK dX10_discount_13 hf
def fX10_annuity_41 (f : pz_H) : Option (Int64 × pz_H) :=
  some (((-1) : Int64), f)
theorem tX10_annuity_41 {G : pz_G} {C : pz_C} {f : pz_H} {r : (Int64 × pz_H)} (hC : pz_OK G C cX10_annuity 4 RX10) (hK : pz_K C (some .long) 7 161 0 0) (hf : fX10_annuity_41 f = some r) : pz_W G C 4 41 [] [] f 0 0 (pz_Q G C (some (.long r.1)) r.2 0 0) := by
  unfold fX10_annuity_41 at hf
  refine pz_ldc2 hC dX10_annuity_41 ck_X10_185 ?_
  exact pz_lretw hC hK dX10_annuity_44 hf
def fnX10_annuity (f : pz_H) (a0 : Nat) (p1 : Int32) (p2 : Int32) (p3 : Int32) : Option (Int64 × pz_H) :=
  (pz_is f a0 9).bind fun _ =>
  (pz_sV f a0 9 0 (.int (0 : Int32))).bind fun f1 =>
  (fnX10_isWho f1 a0 p1).bind fun x2 =>
  if x2 = 0 then fX10_annuity_41 f1 else
  (fnX10_isMonth p2).bind fun x3 =>
  if x3 = 0 then fX10_annuity_41 f1 else
  (fnX10_isMonth p3).bind fun x4 =>
  if x4 = 0 then fX10_annuity_41 f1 else
  if p3 < p2 then fX10_annuity_41 f1 else
  (fnX10_bornOf f1 a0 p1).bind fun x5 =>
  if x5 ≤ p2 then (pz_gR f1 a0 9 8).bind fun v6 =>
  (fnX10_laysOdds f1 a0 v6 p1 p2).bind fun x7 =>
  (pz_gR x7 a0 9 8).bind fun v8 =>
  (fnX10_annuityBy x7 a0 v8 p2 p3).bind fun x9 =>
  some (x9.1, x9.2) else
  fX10_annuity_41 f1
theorem mX10_annuity {l : Launch} {G : pz_G} {f : pz_H} {a0 : Nat} {p1 : Int32} {p2 : Int32} {p3 : Int32} {r : (Int64 × pz_H)} (hf : fnX10_annuity f a0 p1 p2 p3 = some r) : pz_Met l G yX10_annuity cX10_annuity 4 (some .long) 7 161 0 0 [.ref a0, .int p1, .int p2, .int p3] f (some (.long r.1)) r.2 ∧ pz_is f a0 9 = some () := by
  unfold fnX10_annuity at hf
  obtain ⟨_, h0, hf⟩ := pz_bd hf
  refine ⟨pz_enter (by decide +kernel) (Nat.le_of_ble_eq_true rfl) (fun C hl hC hK hnm => ?_), h0⟩
  subst hl
  refine pz_sub (lv' := [(0, .ref a0), (1, .int p1), (2, .int p2), (3, .int p3)]) [0, 1, 2, 3] rfl ?_
  refine pz_aload_n hC dX10_annuity_0 0 rfl ?_
  refine pz_iconst (v := (0 : Int32)) hC dX10_annuity_1 (by decide) ?_
  refine pz_putV hC dX10_annuity_2 fp_X10_48 rfl rfl hf (fun f1 hf => ?_)
  refine pz_aload_n hC dX10_annuity_5 0 rfl ?_
  refine pz_iload_n hC dX10_annuity_6 1 rfl ?_
  refine pz_Vi (As := [.int p1]) hC hK dX10_annuity_7 py_X10_isWho pv_X10_isWho lk_X10_158 hf (fun _ h => mX10_isWho h) rfl rfl (Nat.le_of_ble_eq_true rfl) ⟨by decide, by decide⟩ ⟨Nat.le_of_ble_eq_true rfl, Nat.le_of_ble_eq_true rfl⟩ (fun x2 hf => ?_)
  refine pz_if_eq hC dX10_annuity_10 hf (fun _ hf => ?_) (fun _ hf => ?_)
  · refine pz_sub [] rfl ?_
    exact tX10_annuity_41 hC hK hf
  · refine pz_iload_n hC dX10_annuity_13 2 rfl ?_
    refine pz_Si (As := [.int p2]) hC hK dX10_annuity_14 py_X10_isMonth ps_X10_isMonth lk_X10_155 hf (fun _ h => mX10_isMonth h) rfl rfl (Nat.le_of_ble_eq_true rfl) ⟨by decide, by decide⟩ ⟨by decide, by decide⟩ (fun x3 hf => ?_)
    refine pz_if_eq hC dX10_annuity_17 hf (fun _ hf => ?_) (fun _ hf => ?_)
    · refine pz_sub [] rfl ?_
      exact tX10_annuity_41 hC hK hf
    · refine pz_iload_n hC dX10_annuity_20 3 rfl ?_
      refine pz_Si (As := [.int p3]) hC hK dX10_annuity_21 py_X10_isMonth ps_X10_isMonth lk_X10_155 hf (fun _ h => mX10_isMonth h) rfl rfl (Nat.le_of_ble_eq_true rfl) ⟨by decide, by decide⟩ ⟨by decide, by decide⟩ (fun x4 hf => ?_)
      refine pz_if_eq hC dX10_annuity_24 hf (fun _ hf => ?_) (fun _ hf => ?_)
      · refine pz_sub [] rfl ?_
        exact tX10_annuity_41 hC hK hf
      · refine pz_iload_n hC dX10_annuity_27 3 rfl ?_
        refine pz_iload_n hC dX10_annuity_28 2 rfl ?_
        refine pz_icmp_lt hC dX10_annuity_29 hf (fun _ hf => ?_) (fun _ hf => ?_)
        · refine pz_sub [] rfl ?_
          exact tX10_annuity_41 hC hK hf
        · refine pz_aload_n hC dX10_annuity_32 0 rfl ?_
          refine pz_iload_n hC dX10_annuity_33 1 rfl ?_
          refine pz_Vi (As := [.int p1]) hC hK dX10_annuity_34 py_X10_bornOf pv_X10_bornOf lk_X10_103 hf (fun _ h => mX10_bornOf h) rfl rfl (Nat.le_of_ble_eq_true rfl) ⟨by decide, by decide⟩ ⟨Nat.le_of_ble_eq_true rfl, Nat.le_of_ble_eq_true rfl⟩ (fun x5 hf => ?_)
          refine pz_iload_n hC dX10_annuity_37 2 rfl ?_
          refine pz_icmp_le hC dX10_annuity_38 hf (fun _ hf => ?_) (fun _ hf => ?_)
          · refine pz_aload_n hC dX10_annuity_45 0 rfl ?_
            refine pz_aload_n hC dX10_annuity_46 0 rfl ?_
            refine pz_getR hC dX10_annuity_47 fa_X10_26 hf (fun v6 hf => ?_)
            refine pz_iload_n hC dX10_annuity_50 1 rfl ?_
            refine pz_iload_n hC dX10_annuity_51 2 rfl ?_
            refine pz_Vv (As := [.ref v6, .int p1, .int p2]) hC hK dX10_annuity_52 py_X10_laysOdds pv_X10_laysOdds lk_X10_113 hf (fun _ h => mX10_laysOdds h) rfl rfl (Nat.le_of_ble_eq_true rfl) ⟨by decide, by decide⟩ ⟨Nat.le_of_ble_eq_true rfl, Nat.le_of_ble_eq_true rfl⟩ (fun x7 hf => ?_)
            refine pz_aload_n hC dX10_annuity_55 0 rfl ?_
            refine pz_aload_n hC dX10_annuity_56 0 rfl ?_
            refine pz_getR hC dX10_annuity_57 fa_X10_26 hf (fun v8 hf => ?_)
            refine pz_iload_n hC dX10_annuity_60 2 rfl ?_
            refine pz_iload_n hC dX10_annuity_61 3 rfl ?_
            refine pz_Vlw (As := [.ref v8, .int p2, .int p3]) hC hK dX10_annuity_62 py_X10_annuityBy pv_X10_annuityBy lk_X10_117 hf (fun _ h => mX10_annuityBy h) rfl rfl (Nat.le_of_ble_eq_true rfl) ⟨by decide, by decide⟩ ⟨Nat.le_of_ble_eq_true rfl, Nat.le_of_ble_eq_true rfl⟩ (fun x9 hf => ?_)
            exact pz_lretw hC hK dX10_annuity_65 hf
          · refine pz_sub [] rfl ?_
            exact tX10_annuity_41 hC hK hf
def fX10_own_34 (f : pz_H) (s0 : Int64) : Option (Int64 × pz_H) :=
  some (s0, f)
theorem tX10_own_34 {G : pz_G} {C : pz_C} {f : pz_H} {s0 : Int64} {r : (Int64 × pz_H)} (hC : pz_OK G C cX10_own 2 RX10) (hK : pz_K C (some .long) 9 209 0 0) (hf : fX10_own_34 f s0 = some r) : pz_W G C 2 34 [] [.long s0] f 0 0 (pz_Q G C (some (.long r.1)) r.2 0 0) := by
  unfold fX10_own_34 at hf
  exact pz_lretw hC hK dX10_own_34 hf
def fX10_own_31 (f : pz_H) : Option (Int64 × pz_H) :=
  fX10_own_34 f (((-1) : Int64))
theorem tX10_own_31 {G : pz_G} {C : pz_C} {f : pz_H} {r : (Int64 × pz_H)} (hC : pz_OK G C cX10_own 2 RX10) (hK : pz_K C (some .long) 9 209 0 0) (hf : fX10_own_31 f = some r) : pz_W G C 2 31 [] [] f 0 0 (pz_Q G C (some (.long r.1)) r.2 0 0) := by
  unfold fX10_own_31 at hf
  refine pz_ldc2 hC dX10_own_31 ck_X10_185 ?_
  exact tX10_own_34 hC hK hf
def fnX10_own (f : pz_H) (a0 : Nat) (p1 : Int32) : Option (Int64 × pz_H) :=
  (pz_is f a0 9).bind fun _ =>
  (pz_sV f a0 9 0 (.int (0 : Int32))).bind fun f1 =>
  (fnX10_isSpouse f1 a0 p1).bind fun x2 =>
  if x2 = 0 then fX10_own_31 f1 else
  (pz_gR f1 a0 9 1).bind fun v3 =>
  (pz_aI f1 v3 0 ((1 : Int32))).bind fun v4 =>
  if v4 = ((-1) : Int32) then fX10_own_31 f1 else
  (fnX10_ownOf f1 a0 p1).bind fun x5 =>
  fX10_own_34 x5.2 x5.1
theorem mX10_own {l : Launch} {G : pz_G} {f : pz_H} {a0 : Nat} {p1 : Int32} {r : (Int64 × pz_H)} (hf : fnX10_own f a0 p1 = some r) : pz_Met l G yX10_own cX10_own 2 (some .long) 9 209 0 0 [.ref a0, .int p1] f (some (.long r.1)) r.2 ∧ pz_is f a0 9 = some () := by
  unfold fnX10_own at hf
  obtain ⟨_, h0, hf⟩ := pz_bd hf
  refine ⟨pz_enter (by decide +kernel) (Nat.le_of_ble_eq_true rfl) (fun C hl hC hK hnm => ?_), h0⟩
  subst hl
  refine pz_sub (lv' := [(0, .ref a0), (1, .int p1)]) [0, 1] rfl ?_
  refine pz_aload_n hC dX10_own_0 0 rfl ?_
  refine pz_iconst (v := (0 : Int32)) hC dX10_own_1 (by decide) ?_
  refine pz_putV hC dX10_own_2 fp_X10_48 rfl rfl hf (fun f1 hf => ?_)
  refine pz_aload_n hC dX10_own_5 0 rfl ?_
  refine pz_iload_n hC dX10_own_6 1 rfl ?_
  refine pz_Vi (As := [.int p1]) hC hK dX10_own_7 py_X10_isSpouse pv_X10_isSpouse lk_X10_149 hf (fun _ h => mX10_isSpouse h) rfl rfl (Nat.le_of_ble_eq_true rfl) ⟨by decide, by decide⟩ ⟨Nat.le_of_ble_eq_true rfl, Nat.le_of_ble_eq_true rfl⟩ (fun x2 hf => ?_)
  refine pz_if_eq hC dX10_own_10 hf (fun _ hf => ?_) (fun _ hf => ?_)
  · refine pz_sub [] rfl ?_
    exact tX10_own_31 hC hK hf
  · refine pz_aload_n hC dX10_own_13 0 rfl ?_
    refine pz_getR hC dX10_own_14 fa_X10_7 hf (fun v3 hf => ?_)
    refine pz_iconst (v := (1 : Int32)) hC dX10_own_17 (by decide) ?_
    refine pz_iald hC dX10_own_18 hf (fun v4 hf => ?_)
    refine pz_iconst (v := ((-1) : Int32)) hC dX10_own_19 (by decide) ?_
    refine pz_icmp_eq hC dX10_own_20 hf (fun _ hf => ?_) (fun _ hf => ?_)
    · refine pz_sub [] rfl ?_
      exact tX10_own_31 hC hK hf
    · refine pz_aload_n hC dX10_own_23 0 rfl ?_
      refine pz_iload_n hC dX10_own_24 1 rfl ?_
      refine pz_Vlw (As := [.int p1]) hC hK dX10_own_25 py_X10_ownOf pv_X10_ownOf lk_X10_132 hf (fun _ h => mX10_ownOf h) rfl rfl (Nat.le_of_ble_eq_true rfl) ⟨by decide, by decide⟩ ⟨Nat.le_of_ble_eq_true rfl, Nat.le_of_ble_eq_true rfl⟩ (fun x5 hf => ?_)
      refine pz_goto hC dX10_own_28 ?_
      refine pz_sub [] rfl ?_
      exact tX10_own_34 hC hK hf
def fX10_worthIn_124 (k27 : pz_H → Nat → Int32 → Int32 → Int64 → Int64 → Int32 → Option (Int64 × pz_H)) (f : pz_H) (l0 : Nat) (l1 : Int32) (l2 : Int32) (l3 : Int64) (l6 : Int64) (l8 : Int32) (l11 : Int64) : Option (Int64 × pz_H) :=
  (pz_gR f l0 9 7).bind fun v1 =>
  (pz_aL f v1 1 ((l8 - l2))).bind fun v2 =>
  k27 f l0 l1 l2 l3 ((l6 + ((v2 * l11) / (1000000000 : Int64)))) ((l8 + 1))
theorem tX10_worthIn_124 {G : pz_G} {C : pz_C} {f : pz_H} {k27 : pz_H → Nat → Int32 → Int32 → Int64 → Int64 → Int32 → Option (Int64 × pz_H)} {l0 : Nat} {l1 : Int32} {l2 : Int32} {l3 : Int64} {l6 : Int64} {l8 : Int32} {l11 : Int64} {r : (Int64 × pz_H)} (hC : pz_OK G C cX10_worthIn 17 RX10) (hK : pz_K C (some .long) 7 158 0 0) (hk27 : ∀ (g : pz_H) (a0 : Nat) (a1 : Int32) (a2 : Int32) (a3 : Int64) (a6 : Int64) (a8 : Int32), k27 g a0 a1 a2 a3 a6 a8 = some r → pz_W G C 17 27 [(0, .ref a0), (1, .int a1), (2, .int a2), (3, .long a3), (6, .long a6), (8, .int a8)] [] g 0 0 (pz_Q G C (some (.long r.1)) r.2 0 0)) (hf : fX10_worthIn_124 k27 f l0 l1 l2 l3 l6 l8 l11 = some r) : pz_W G C 17 124 [(0, .ref l0), (1, .int l1), (2, .int l2), (3, .long l3), (6, .long l6), (8, .int l8), (11, .long l11)] [] f 0 0 (pz_Q G C (some (.long r.1)) r.2 0 0) := by
  unfold fX10_worthIn_124 at hf
  refine pz_lload hC dX10_worthIn_124 4 rfl ?_
  refine pz_aload_n hC dX10_worthIn_126 0 rfl ?_
  refine pz_getR hC dX10_worthIn_127 fa_X10_23 hf (fun v1 hf => ?_)
  refine pz_iload hC dX10_worthIn_130 5 rfl ?_
  refine pz_iload_n hC dX10_worthIn_132 2 rfl ?_
  refine pz_isub hC dX10_worthIn_133 ?_
  refine pz_lald hC dX10_worthIn_134 hf (fun v2 hf => ?_)
  refine pz_lload hC dX10_worthIn_135 6 rfl ?_
  refine pz_lmul hC dX10_worthIn_137 ?_
  refine pz_ldc2 hC dX10_worthIn_138 ck_X10_87 ?_
  refine pz_ldivc hC dX10_worthIn_141 (by decide) ?_
  refine pz_ladd hC dX10_worthIn_142 ?_
  refine pz_lstore hC dX10_worthIn_143 (by decide) rfl ?_
  refine pz_iinc (v := (l8 + 1)) hC dX10_worthIn_145 5 rfl rfl (by decide) rfl ?_
  refine pz_goto hC dX10_worthIn_148 ?_
  refine pz_sub [2, 3, 4, 5, 1, 0] rfl ?_
  exact hk27 _ _ _ _ _ _ _ hf
def fX10_worthIn_27b (k27 : pz_H → Nat → Int32 → Int32 → Int64 → Int64 → Int32 → Option (Int64 × pz_H)) (f : pz_H) (l0 : Nat) (l1 : Int32) (l2 : Int32) (l3 : Int64) (l6 : Int64) (l8 : Int32) : Option (Int64 × pz_H) :=
  if (1800 : Int32) ≤ l8 then some (l6, f) else
  (pz_gR f l0 9 9).bind fun v1 =>
  (pz_aL f v1 1 l8).bind fun v2 =>
  (fnX10_its f l0 l1 ((4 : Int32))).bind fun x3 =>
  if x3 = (1 : Int32) then fX10_worthIn_124 k27 f l0 l1 l2 l3 l6 l8 (((l3 * v2) / (1000000000 : Int64))) else
  (pz_gR f l0 9 8).bind fun v4 =>
  (pz_aL f v4 1 l8).bind fun v5 =>
  (fnX10_shareIn f l0 l1 l8).bind fun x6 =>
  (fnX10_its x6.2 l0 l1 ((5 : Int32))).bind fun x7 =>
  fX10_worthIn_124 k27 x6.2 l0 l1 l2 l3 l6 l8 ((((x6.1 * ((v5 * v2) / (1000000000 : Int64))) + (((x6.1 * x7.toInt64) / (1000 : Int64)) * (v2 - ((v5 * v2) / (1000000000 : Int64))))) / (1000000000 : Int64)))
theorem tX10_worthIn_27b {G : pz_G} {C : pz_C} {f : pz_H} {k27 : pz_H → Nat → Int32 → Int32 → Int64 → Int64 → Int32 → Option (Int64 × pz_H)} {l0 : Nat} {l1 : Int32} {l2 : Int32} {l3 : Int64} {l6 : Int64} {l8 : Int32} {r : (Int64 × pz_H)} (hC : pz_OK G C cX10_worthIn 17 RX10) (hK : pz_K C (some .long) 7 158 0 0) (hk27 : ∀ (g : pz_H) (a0 : Nat) (a1 : Int32) (a2 : Int32) (a3 : Int64) (a6 : Int64) (a8 : Int32), k27 g a0 a1 a2 a3 a6 a8 = some r → pz_W G C 17 27 [(0, .ref a0), (1, .int a1), (2, .int a2), (3, .long a3), (6, .long a6), (8, .int a8)] [] g 0 0 (pz_Q G C (some (.long r.1)) r.2 0 0)) (hf : fX10_worthIn_27b k27 f l0 l1 l2 l3 l6 l8 = some r) : pz_W G C 17 27 [(0, .ref l0), (1, .int l1), (2, .int l2), (3, .long l3), (6, .long l6), (8, .int l8)] [] f 0 0 (pz_Q G C (some (.long r.1)) r.2 0 0) := by
  unfold fX10_worthIn_27b at hf
  refine pz_iload hC dX10_worthIn_27 5 rfl ?_
  refine pz_sipush (v := (1800 : Int32)) hC dX10_worthIn_29 (by decide) ?_
  refine pz_icmp_ge hC dX10_worthIn_32 hf (fun _ hf => ?_) (fun _ hf => ?_)
  · refine pz_lload hC dX10_worthIn_151 4 rfl ?_
    exact pz_lretw hC hK dX10_worthIn_153 hf
  · refine pz_aload_n hC dX10_worthIn_35 0 rfl ?_
    refine pz_getR hC dX10_worthIn_36 fa_X10_29 hf (fun v1 hf => ?_)
    refine pz_iload hC dX10_worthIn_39 5 rfl ?_
    refine pz_lald hC dX10_worthIn_41 hf (fun v2 hf => ?_)
    refine pz_lstore hC dX10_worthIn_42 (by decide) rfl ?_
    refine pz_aload_n hC dX10_worthIn_44 1 rfl ?_
    refine pz_iload_n hC dX10_worthIn_45 2 rfl ?_
    refine pz_iconst (v := (4 : Int32)) hC dX10_worthIn_46 (by decide) ?_
    refine pz_Vi (As := [.int l1, .int (4 : Int32)]) hC hK dX10_worthIn_47 py_X10_its pv_X10_its lk_X10_56 hf (fun _ h => mX10_its h) rfl rfl (Nat.le_of_ble_eq_true rfl) ⟨by decide, by decide⟩ ⟨Nat.le_of_ble_eq_true rfl, Nat.le_of_ble_eq_true rfl⟩ (fun x3 hf => ?_)
    refine pz_iconst (v := (1 : Int32)) hC dX10_worthIn_50 (by decide) ?_
    refine pz_icmp_ne hC dX10_worthIn_51 hf (fun _ hf => ?_) (fun _ hf => ?_)
    · refine pz_aload_n hC dX10_worthIn_67 1 rfl ?_
      refine pz_getR hC dX10_worthIn_68 fa_X10_26 hf (fun v4 hf => ?_)
      refine pz_iload hC dX10_worthIn_71 6 rfl ?_
      refine pz_lald hC dX10_worthIn_73 hf (fun v5 hf => ?_)
      refine pz_lload hC dX10_worthIn_74 0 rfl ?_
      refine pz_lmul hC dX10_worthIn_76 ?_
      refine pz_ldc2 hC dX10_worthIn_77 ck_X10_87 ?_
      refine pz_ldivc hC dX10_worthIn_80 (by decide) ?_
      refine pz_lstore hC dX10_worthIn_81 (by decide) rfl ?_
      refine pz_aload_n hC dX10_worthIn_83 2 rfl ?_
      refine pz_iload_n hC dX10_worthIn_84 3 rfl ?_
      refine pz_iload hC dX10_worthIn_85 7 rfl ?_
      refine pz_Vlw (As := [.int l1, .int l8]) hC hK dX10_worthIn_87 py_X10_shareIn pv_X10_shareIn lk_X10_128 hf (fun _ h => mX10_shareIn h) rfl rfl (Nat.le_of_ble_eq_true rfl) ⟨by decide, by decide⟩ ⟨Nat.le_of_ble_eq_true rfl, Nat.le_of_ble_eq_true rfl⟩ (fun x6 hf => ?_)
      refine pz_lstore hC dX10_worthIn_90 (by decide) rfl ?_
      refine pz_lload hC dX10_worthIn_92 0 rfl ?_
      refine pz_lload hC dX10_worthIn_94 1 rfl ?_
      refine pz_lmul hC dX10_worthIn_96 ?_
      refine pz_lload hC dX10_worthIn_97 0 rfl ?_
      refine pz_aload_n hC dX10_worthIn_99 3 rfl ?_
      refine pz_iload_n hC dX10_worthIn_100 4 rfl ?_
      refine pz_iconst (v := (5 : Int32)) hC dX10_worthIn_101 (by decide) ?_
      refine pz_Vi (As := [.int l1, .int (5 : Int32)]) hC hK dX10_worthIn_102 py_X10_its pv_X10_its lk_X10_56 hf (fun _ h => mX10_its h) rfl rfl (Nat.le_of_ble_eq_true rfl) ⟨by decide, by decide⟩ ⟨Nat.le_of_ble_eq_true rfl, Nat.le_of_ble_eq_true rfl⟩ (fun x7 hf => ?_)
      refine pz_i2l hC dX10_worthIn_105 ?_
      refine pz_lmul hC dX10_worthIn_106 ?_
      refine pz_ldc2 hC dX10_worthIn_107 ck_X10_78 ?_
      refine pz_ldivc hC dX10_worthIn_110 (by decide) ?_
      refine pz_lload hC dX10_worthIn_111 2 rfl ?_
      refine pz_lload hC dX10_worthIn_113 1 rfl ?_
      refine pz_lsub hC dX10_worthIn_115 ?_
      refine pz_lmul hC dX10_worthIn_116 ?_
      refine pz_ladd hC dX10_worthIn_117 ?_
      refine pz_ldc2 hC dX10_worthIn_118 ck_X10_87 ?_
      refine pz_ldivc hC dX10_worthIn_121 (by decide) ?_
      refine pz_lstore hC dX10_worthIn_122 (by decide) rfl ?_
      refine pz_sub [4, 5, 6, 7, 8, 9, 0] rfl ?_
      exact tX10_worthIn_124 hC hK hk27 hf
    · refine pz_lload_n hC dX10_worthIn_54 4 rfl ?_
      refine pz_lload hC dX10_worthIn_55 0 rfl ?_
      refine pz_lmul hC dX10_worthIn_57 ?_
      refine pz_ldc2 hC dX10_worthIn_58 ck_X10_87 ?_
      refine pz_ldivc hC dX10_worthIn_61 (by decide) ?_
      refine pz_lstore hC dX10_worthIn_62 (by decide) rfl ?_
      refine pz_goto hC dX10_worthIn_64 ?_
      refine pz_sub [2, 3, 4, 5, 6, 7, 0] rfl ?_
      exact tX10_worthIn_124 hC hK hk27 hf
def fX10_worthIn_27 : Nat → pz_H → Nat → Int32 → Int32 → Int64 → Int64 → Int32 → Option (Int64 × pz_H)
  | 0, _, _, _, _, _, _, _ => none
  | n + 1, f, l0, l1, l2, l3, l6, l8 => fX10_worthIn_27b (fX10_worthIn_27 n) f l0 l1 l2 l3 l6 l8
theorem tX10_worthIn_27 {G : pz_G} {C : pz_C} {r : (Int64 × pz_H)} (hC : pz_OK G C cX10_worthIn 17 RX10) (hK : pz_K C (some .long) 7 158 0 0) : ∀ (N : Nat) (f : pz_H) (l0 : Nat) (l1 : Int32) (l2 : Int32) (l3 : Int64) (l6 : Int64) (l8 : Int32), fX10_worthIn_27 N f l0 l1 l2 l3 l6 l8 = some r → pz_W G C 17 27 [(0, .ref l0), (1, .int l1), (2, .int l2), (3, .long l3), (6, .long l6), (8, .int l8)] [] f 0 0 (pz_Q G C (some (.long r.1)) r.2 0 0) := by
  intro N
  induction N with
  | zero => intro f l0 l1 l2 l3 l6 l8 hf; cases hf
  | succ N ih => intro f l0 l1 l2 l3 l6 l8 hf; exact tX10_worthIn_27b hC hK (fun f l0 l1 l2 l3 l6 l8 hf => ih f l0 l1 l2 l3 l6 l8 hf) hf
def fX10_worthIn_18 (f : pz_H) (l0 : Nat) (l1 : Int32) (l2 : Int32) (l3 : Int64) (s0 : Int32) : Option (Int64 × pz_H) :=
  fX10_worthIn_27 pz_F f l0 l1 l2 l3 ((0 : Int64)) s0
theorem tX10_worthIn_18 {G : pz_G} {C : pz_C} {f : pz_H} {l0 : Nat} {l1 : Int32} {l2 : Int32} {l3 : Int64} {s0 : Int32} {r : (Int64 × pz_H)} (hC : pz_OK G C cX10_worthIn 17 RX10) (hK : pz_K C (some .long) 7 158 0 0) (hf : fX10_worthIn_18 f l0 l1 l2 l3 s0 = some r) : pz_W G C 17 18 [(0, .ref l0), (1, .int l1), (2, .int l2), (3, .long l3)] [.int s0] f 0 0 (pz_Q G C (some (.long r.1)) r.2 0 0) := by
  unfold fX10_worthIn_18 at hf
  refine pz_istore hC dX10_worthIn_18 (by decide) rfl ?_
  refine pz_lconst (v := 0) hC dX10_worthIn_20 (by decide) ?_
  refine pz_lstore hC dX10_worthIn_21 (by decide) rfl ?_
  refine pz_iload hC dX10_worthIn_23 1 rfl ?_
  refine pz_istore hC dX10_worthIn_25 (by decide) rfl ?_
  refine pz_sub [3, 4, 5, 6, 1, 0] rfl ?_
  exact tX10_worthIn_27 hC hK _ _ _ _ _ _ _ _ hf
def fnX10_worthIn (f : pz_H) (a0 : Nat) (p1 : Int32) (p2 : Int32) (p3 : Int64) : Option (Int64 × pz_H) :=
  (pz_is f a0 9).bind fun _ =>
  (fnX10_begin f a0 p1).bind fun x1 =>
  if x1 ≤ p2 then fX10_worthIn_18 f a0 p1 p2 p3 p2 else
  (fnX10_begin f a0 p1).bind fun x2 =>
  fX10_worthIn_18 f a0 p1 p2 p3 x2
theorem mX10_worthIn {l : Launch} {G : pz_G} {f : pz_H} {a0 : Nat} {p1 : Int32} {p2 : Int32} {p3 : Int64} {r : (Int64 × pz_H)} (hf : fnX10_worthIn f a0 p1 p2 p3 = some r) : pz_Met l G yX10_worthIn cX10_worthIn 17 (some .long) 7 158 0 0 [.ref a0, .int p1, .int p2, .long p3] f (some (.long r.1)) r.2 ∧ pz_is f a0 9 = some () := by
  unfold fnX10_worthIn at hf
  obtain ⟨_, h0, hf⟩ := pz_bd hf
  refine ⟨pz_enter (by decide +kernel) (Nat.le_of_ble_eq_true rfl) (fun C hl hC hK hnm => ?_), h0⟩
  subst hl
  refine pz_sub (lv' := [(0, .ref a0), (1, .int p1), (2, .int p2), (3, .long p3)]) [0, 1, 2, 3] rfl ?_
  refine pz_aload_n hC dX10_worthIn_0 0 rfl ?_
  refine pz_iload_n hC dX10_worthIn_1 1 rfl ?_
  refine pz_Vi (As := [.int p1]) hC hK dX10_worthIn_2 py_X10_begin pv_X10_begin lk_X10_121 hf (fun _ h => mX10_begin h) rfl rfl (Nat.le_of_ble_eq_true rfl) ⟨by decide, by decide⟩ ⟨Nat.le_of_ble_eq_true rfl, Nat.le_of_ble_eq_true rfl⟩ (fun x1 hf => ?_)
  refine pz_iload_n hC dX10_worthIn_5 2 rfl ?_
  refine pz_icmp_le hC dX10_worthIn_6 hf (fun _ hf => ?_) (fun _ hf => ?_)
  · refine pz_iload_n hC dX10_worthIn_17 2 rfl ?_
    exact tX10_worthIn_18 hC hK hf
  · refine pz_aload_n hC dX10_worthIn_9 0 rfl ?_
    refine pz_iload_n hC dX10_worthIn_10 1 rfl ?_
    refine pz_Vi (As := [.int p1]) hC hK dX10_worthIn_11 py_X10_begin pv_X10_begin lk_X10_121 hf (fun _ h => mX10_begin h) rfl rfl (Nat.le_of_ble_eq_true rfl) ⟨by decide, by decide⟩ ⟨Nat.le_of_ble_eq_true rfl, Nat.le_of_ble_eq_true rfl⟩ (fun x2 hf => ?_)
    refine pz_goto hC dX10_worthIn_14 ?_
    exact tX10_worthIn_18 hC hK hf
def fnX10_worthOfSpouse (f : pz_H) (a0 : Nat) (p1 : Int32) (p2 : Int32) : Option (Int64 × pz_H) :=
  (pz_is f a0 9).bind fun _ =>
  (fnX10_laysWholes f a0).bind fun x1 =>
  (fnX10_ownOf x1 a0 p1).bind fun x2 =>
  (pz_gR x2.2 a0 9 8).bind fun v3 =>
  (fnX10_laysOdds x2.2 a0 v3 ((10 : Int32)) p2).bind fun x4 =>
  (pz_gR x4 a0 9 9).bind fun v5 =>
  (fnX10_laysOdds x4 a0 v5 p1 p2).bind fun x6 =>
  (fnX10_worthIn x6 a0 p1 p2 x2.1).bind fun x7 =>
  some (x7.1, x7.2)
theorem mX10_worthOfSpouse {l : Launch} {G : pz_G} {f : pz_H} {a0 : Nat} {p1 : Int32} {p2 : Int32} {r : (Int64 × pz_H)} (hf : fnX10_worthOfSpouse f a0 p1 p2 = some r) : pz_Met l G yX10_worthOfSpouse cX10_worthOfSpouse 5 (some .long) 9 209 0 0 [.ref a0, .int p1, .int p2] f (some (.long r.1)) r.2 ∧ pz_is f a0 9 = some () := by
  unfold fnX10_worthOfSpouse at hf
  obtain ⟨_, h0, hf⟩ := pz_bd hf
  refine ⟨pz_enter (by decide +kernel) (Nat.le_of_ble_eq_true rfl) (fun C hl hC hK hnm => ?_), h0⟩
  subst hl
  refine pz_sub (lv' := [(0, .ref a0), (1, .int p1), (2, .int p2)]) [0, 1, 2] rfl ?_
  refine pz_aload_n hC dX10_worthOfSpouse_0 0 rfl ?_
  refine pz_Vv (As := []) hC hK dX10_worthOfSpouse_1 py_X10_laysWholes pv_X10_laysWholes lk_X10_95 hf (fun _ h => mX10_laysWholes h) rfl rfl (Nat.le_of_ble_eq_true rfl) ⟨by decide, by decide⟩ ⟨Nat.le_of_ble_eq_true rfl, Nat.le_of_ble_eq_true rfl⟩ (fun x1 hf => ?_)
  refine pz_aload_n hC dX10_worthOfSpouse_4 0 rfl ?_
  refine pz_iload_n hC dX10_worthOfSpouse_5 1 rfl ?_
  refine pz_Vlw (As := [.int p1]) hC hK dX10_worthOfSpouse_6 py_X10_ownOf pv_X10_ownOf lk_X10_132 hf (fun _ h => mX10_ownOf h) rfl rfl (Nat.le_of_ble_eq_true rfl) ⟨by decide, by decide⟩ ⟨Nat.le_of_ble_eq_true rfl, Nat.le_of_ble_eq_true rfl⟩ (fun x2 hf => ?_)
  refine pz_lstore_n hC dX10_worthOfSpouse_9 (by decide) rfl ?_
  refine pz_aload_n hC dX10_worthOfSpouse_10 1 rfl ?_
  refine pz_aload_n hC dX10_worthOfSpouse_11 1 rfl ?_
  refine pz_getR hC dX10_worthOfSpouse_12 fa_X10_26 hf (fun v3 hf => ?_)
  refine pz_bipush (v := (10 : Int32)) hC dX10_worthOfSpouse_15 (by decide) ?_
  refine pz_iload_n hC dX10_worthOfSpouse_17 3 rfl ?_
  refine pz_Vv (As := [.ref v3, .int (10 : Int32), .int p2]) hC hK dX10_worthOfSpouse_18 py_X10_laysOdds pv_X10_laysOdds lk_X10_113 hf (fun _ h => mX10_laysOdds h) rfl rfl (Nat.le_of_ble_eq_true rfl) ⟨by decide, by decide⟩ ⟨Nat.le_of_ble_eq_true rfl, Nat.le_of_ble_eq_true rfl⟩ (fun x4 hf => ?_)
  refine pz_aload_n hC dX10_worthOfSpouse_21 1 rfl ?_
  refine pz_aload_n hC dX10_worthOfSpouse_22 1 rfl ?_
  refine pz_getR hC dX10_worthOfSpouse_23 fa_X10_29 hf (fun v5 hf => ?_)
  refine pz_iload_n hC dX10_worthOfSpouse_26 2 rfl ?_
  refine pz_iload_n hC dX10_worthOfSpouse_27 3 rfl ?_
  refine pz_Vv (As := [.ref v5, .int p1, .int p2]) hC hK dX10_worthOfSpouse_28 py_X10_laysOdds pv_X10_laysOdds lk_X10_113 hf (fun _ h => mX10_laysOdds h) rfl rfl (Nat.le_of_ble_eq_true rfl) ⟨by decide, by decide⟩ ⟨Nat.le_of_ble_eq_true rfl, Nat.le_of_ble_eq_true rfl⟩ (fun x6 hf => ?_)
  refine pz_aload_n hC dX10_worthOfSpouse_31 1 rfl ?_
  refine pz_iload_n hC dX10_worthOfSpouse_32 2 rfl ?_
  refine pz_iload_n hC dX10_worthOfSpouse_33 3 rfl ?_
  refine pz_lload_n hC dX10_worthOfSpouse_34 0 rfl ?_
  refine pz_Vlw (As := [.int p1, .int p2, .long x2.1]) hC hK dX10_worthOfSpouse_35 py_X10_worthIn pv_X10_worthIn lk_X10_187 hf (fun _ h => mX10_worthIn h) rfl rfl (Nat.le_of_ble_eq_true rfl) ⟨by decide, by decide⟩ ⟨Nat.le_of_ble_eq_true rfl, Nat.le_of_ble_eq_true rfl⟩ (fun x7 hf => ?_)
  exact pz_lretw hC hK dX10_worthOfSpouse_38 hf
def fX10_worthOfAll_39b (k39 : pz_H → Nat → Int32 → Int64 → Int32 → Option (Int64 × pz_H)) (f : pz_H) (l0 : Nat) (l1 : Int32) (l2 : Int64) (l4 : Int32) : Option (Int64 × pz_H) :=
  if (1800 : Int32) ≤ l4 then some (l2, f) else
  (pz_gR f l0 9 7).bind fun v1 =>
  (pz_aL f v1 1 ((l4 - l1))).bind fun v2 =>
  (pz_gR f l0 9 5).bind fun v3 =>
  (pz_aL f v3 1 l4).bind fun v4 =>
  (pz_gR f l0 9 8).bind fun v5 =>
  (pz_aL f v5 1 l4).bind fun v6 =>
  k39 f l0 l1 ((l2 + ((v2 * ((v4 * v6) / (1000000000 : Int64))) / (1000000000 : Int64)))) ((l4 + 1))
theorem tX10_worthOfAll_39b {G : pz_G} {C : pz_C} {f : pz_H} {k39 : pz_H → Nat → Int32 → Int64 → Int32 → Option (Int64 × pz_H)} {l0 : Nat} {l1 : Int32} {l2 : Int64} {l4 : Int32} {r : (Int64 × pz_H)} (hC : pz_OK G C cX10_worthOfAll 5 RX10) (hK : pz_K C (some .long) 6 135 0 0) (hk39 : ∀ (g : pz_H) (a0 : Nat) (a1 : Int32) (a2 : Int64) (a4 : Int32), k39 g a0 a1 a2 a4 = some r → pz_W G C 5 39 [(0, .ref a0), (1, .int a1), (2, .long a2), (4, .int a4)] [] g 0 0 (pz_Q G C (some (.long r.1)) r.2 0 0)) (hf : fX10_worthOfAll_39b k39 f l0 l1 l2 l4 = some r) : pz_W G C 5 39 [(0, .ref l0), (1, .int l1), (2, .long l2), (4, .int l4)] [] f 0 0 (pz_Q G C (some (.long r.1)) r.2 0 0) := by
  unfold fX10_worthOfAll_39b at hf
  refine pz_iload hC dX10_worthOfAll_39 3 rfl ?_
  refine pz_sipush (v := (1800 : Int32)) hC dX10_worthOfAll_41 (by decide) ?_
  refine pz_icmp_ge hC dX10_worthOfAll_44 hf (fun _ hf => ?_) (fun _ hf => ?_)
  · refine pz_lload_n hC dX10_worthOfAll_89 2 rfl ?_
    exact pz_lretw hC hK dX10_worthOfAll_90 hf
  · refine pz_lload_n hC dX10_worthOfAll_47 2 rfl ?_
    refine pz_aload_n hC dX10_worthOfAll_48 0 rfl ?_
    refine pz_getR hC dX10_worthOfAll_49 fa_X10_23 hf (fun v1 hf => ?_)
    refine pz_iload hC dX10_worthOfAll_52 3 rfl ?_
    refine pz_iload_n hC dX10_worthOfAll_54 1 rfl ?_
    refine pz_isub hC dX10_worthOfAll_55 ?_
    refine pz_lald hC dX10_worthOfAll_56 hf (fun v2 hf => ?_)
    refine pz_aload_n hC dX10_worthOfAll_57 0 rfl ?_
    refine pz_getR hC dX10_worthOfAll_58 fa_X10_19 hf (fun v3 hf => ?_)
    refine pz_iload hC dX10_worthOfAll_61 3 rfl ?_
    refine pz_lald hC dX10_worthOfAll_63 hf (fun v4 hf => ?_)
    refine pz_aload_n hC dX10_worthOfAll_64 0 rfl ?_
    refine pz_getR hC dX10_worthOfAll_65 fa_X10_26 hf (fun v5 hf => ?_)
    refine pz_iload hC dX10_worthOfAll_68 3 rfl ?_
    refine pz_lald hC dX10_worthOfAll_70 hf (fun v6 hf => ?_)
    refine pz_lmul hC dX10_worthOfAll_71 ?_
    refine pz_ldc2 hC dX10_worthOfAll_72 ck_X10_87 ?_
    refine pz_ldivc hC dX10_worthOfAll_75 (by decide) ?_
    refine pz_lmul hC dX10_worthOfAll_76 ?_
    refine pz_ldc2 hC dX10_worthOfAll_77 ck_X10_87 ?_
    refine pz_ldivc hC dX10_worthOfAll_80 (by decide) ?_
    refine pz_ladd hC dX10_worthOfAll_81 ?_
    refine pz_lstore_n hC dX10_worthOfAll_82 (by decide) rfl ?_
    refine pz_iinc (v := (l4 + 1)) hC dX10_worthOfAll_83 3 rfl rfl (by decide) rfl ?_
    refine pz_goto hC dX10_worthOfAll_86 ?_
    refine pz_sub [2, 3, 1, 0] rfl ?_
    exact hk39 _ _ _ _ _ hf
def fX10_worthOfAll_39 : Nat → pz_H → Nat → Int32 → Int64 → Int32 → Option (Int64 × pz_H)
  | 0, _, _, _, _, _ => none
  | n + 1, f, l0, l1, l2, l4 => fX10_worthOfAll_39b (fX10_worthOfAll_39 n) f l0 l1 l2 l4
theorem tX10_worthOfAll_39 {G : pz_G} {C : pz_C} {r : (Int64 × pz_H)} (hC : pz_OK G C cX10_worthOfAll 5 RX10) (hK : pz_K C (some .long) 6 135 0 0) : ∀ (N : Nat) (f : pz_H) (l0 : Nat) (l1 : Int32) (l2 : Int64) (l4 : Int32), fX10_worthOfAll_39 N f l0 l1 l2 l4 = some r → pz_W G C 5 39 [(0, .ref l0), (1, .int l1), (2, .long l2), (4, .int l4)] [] f 0 0 (pz_Q G C (some (.long r.1)) r.2 0 0) := by
  intro N
  induction N with
  | zero => intro f l0 l1 l2 l4 hf; cases hf
  | succ N ih => intro f l0 l1 l2 l4 hf; exact tX10_worthOfAll_39b hC hK (fun f l0 l1 l2 l4 hf => ih f l0 l1 l2 l4 hf) hf
def fX10_worthOfAll_37 (f : pz_H) (l0 : Nat) (l1 : Int32) (l2 : Int64) (s0 : Int32) : Option (Int64 × pz_H) :=
  fX10_worthOfAll_39 pz_F f l0 l1 l2 s0
theorem tX10_worthOfAll_37 {G : pz_G} {C : pz_C} {f : pz_H} {l0 : Nat} {l1 : Int32} {l2 : Int64} {s0 : Int32} {r : (Int64 × pz_H)} (hC : pz_OK G C cX10_worthOfAll 5 RX10) (hK : pz_K C (some .long) 6 135 0 0) (hf : fX10_worthOfAll_37 f l0 l1 l2 s0 = some r) : pz_W G C 5 37 [(0, .ref l0), (1, .int l1), (2, .long l2)] [.int s0] f 0 0 (pz_Q G C (some (.long r.1)) r.2 0 0) := by
  unfold fX10_worthOfAll_37 at hf
  refine pz_istore hC dX10_worthOfAll_37 (by decide) rfl ?_
  refine pz_sub [1, 2, 3, 0] rfl ?_
  exact tX10_worthOfAll_39 hC hK _ _ _ _ _ _ hf
def fnX10_worthOfAll (f : pz_H) (a0 : Nat) (p1 : Int32) : Option (Int64 × pz_H) :=
  (pz_is f a0 9).bind fun _ =>
  (fnX10_laysWholes f a0).bind fun x1 =>
  (pz_gR x1 a0 9 8).bind fun v2 =>
  (fnX10_laysOdds x1 a0 v2 ((10 : Int32)) p1).bind fun x3 =>
  (pz_gR x3 a0 9 1).bind fun v4 =>
  (pz_aI x3 v4 0 ((1 : Int32))).bind fun v5 =>
  if v5 ≤ p1 then fX10_worthOfAll_37 x3 a0 p1 ((0 : Int64)) p1 else
  (pz_gR x3 a0 9 1).bind fun v6 =>
  (pz_aI x3 v6 0 ((1 : Int32))).bind fun v7 =>
  fX10_worthOfAll_37 x3 a0 p1 ((0 : Int64)) v7
theorem mX10_worthOfAll {l : Launch} {G : pz_G} {f : pz_H} {a0 : Nat} {p1 : Int32} {r : (Int64 × pz_H)} (hf : fnX10_worthOfAll f a0 p1 = some r) : pz_Met l G yX10_worthOfAll cX10_worthOfAll 5 (some .long) 6 135 0 0 [.ref a0, .int p1] f (some (.long r.1)) r.2 ∧ pz_is f a0 9 = some () := by
  unfold fnX10_worthOfAll at hf
  obtain ⟨_, h0, hf⟩ := pz_bd hf
  refine ⟨pz_enter (by decide +kernel) (Nat.le_of_ble_eq_true rfl) (fun C hl hC hK hnm => ?_), h0⟩
  subst hl
  refine pz_sub (lv' := [(0, .ref a0), (1, .int p1)]) [0, 1] rfl ?_
  refine pz_aload_n hC dX10_worthOfAll_0 0 rfl ?_
  refine pz_Vv (As := []) hC hK dX10_worthOfAll_1 py_X10_laysWholes pv_X10_laysWholes lk_X10_95 hf (fun _ h => mX10_laysWholes h) rfl rfl (Nat.le_of_ble_eq_true rfl) ⟨by decide, by decide⟩ ⟨Nat.le_of_ble_eq_true rfl, Nat.le_of_ble_eq_true rfl⟩ (fun x1 hf => ?_)
  refine pz_aload_n hC dX10_worthOfAll_4 0 rfl ?_
  refine pz_aload_n hC dX10_worthOfAll_5 0 rfl ?_
  refine pz_getR hC dX10_worthOfAll_6 fa_X10_26 hf (fun v2 hf => ?_)
  refine pz_bipush (v := (10 : Int32)) hC dX10_worthOfAll_9 (by decide) ?_
  refine pz_iload_n hC dX10_worthOfAll_11 1 rfl ?_
  refine pz_Vv (As := [.ref v2, .int (10 : Int32), .int p1]) hC hK dX10_worthOfAll_12 py_X10_laysOdds pv_X10_laysOdds lk_X10_113 hf (fun _ h => mX10_laysOdds h) rfl rfl (Nat.le_of_ble_eq_true rfl) ⟨by decide, by decide⟩ ⟨Nat.le_of_ble_eq_true rfl, Nat.le_of_ble_eq_true rfl⟩ (fun x3 hf => ?_)
  refine pz_lconst (v := 0) hC dX10_worthOfAll_15 (by decide) ?_
  refine pz_lstore_n hC dX10_worthOfAll_16 (by decide) rfl ?_
  refine pz_aload_n hC dX10_worthOfAll_17 1 rfl ?_
  refine pz_getR hC dX10_worthOfAll_18 fa_X10_7 hf (fun v4 hf => ?_)
  refine pz_iconst (v := (1 : Int32)) hC dX10_worthOfAll_21 (by decide) ?_
  refine pz_iald hC dX10_worthOfAll_22 hf (fun v5 hf => ?_)
  refine pz_iload_n hC dX10_worthOfAll_23 2 rfl ?_
  refine pz_icmp_le hC dX10_worthOfAll_24 hf (fun _ hf => ?_) (fun _ hf => ?_)
  · refine pz_iload_n hC dX10_worthOfAll_36 2 rfl ?_
    refine pz_sub [1, 2, 0] rfl ?_
    exact tX10_worthOfAll_37 hC hK hf
  · refine pz_aload_n hC dX10_worthOfAll_27 1 rfl ?_
    refine pz_getR hC dX10_worthOfAll_28 fa_X10_7 hf (fun v6 hf => ?_)
    refine pz_iconst (v := (1 : Int32)) hC dX10_worthOfAll_31 (by decide) ?_
    refine pz_iald hC dX10_worthOfAll_32 hf (fun v7 hf => ?_)
    refine pz_goto hC dX10_worthOfAll_33 ?_
    refine pz_sub [1, 2, 0] rfl ?_
    exact tX10_worthOfAll_37 hC hK hf
def fX10_hasWorth_49 (f : pz_H) (s0 : Int32) : Option Int32 :=
  pz_b s0
theorem tX10_hasWorth_49 {G : pz_G} {C : pz_C} {f : pz_H} {s0 : Int32} {r : Int32} (hC : pz_OK G C cX10_hasWorth 3 RX10) (hK : pz_K C (some .boolean) 3 64 0 0) (hf : fX10_hasWorth_49 f s0 = some r) : pz_W G C 3 49 [] [.int s0] f 0 0 (pz_Q G C (some (.int r)) f 0 0) := by
  unfold fX10_hasWorth_49 at hf
  exact pz_zret hC hK dX10_hasWorth_49 hf
def fX10_hasWorth_48 (f : pz_H) : Option Int32 :=
  fX10_hasWorth_49 f ((0 : Int32))
theorem tX10_hasWorth_48 {G : pz_G} {C : pz_C} {f : pz_H} {r : Int32} (hC : pz_OK G C cX10_hasWorth 3 RX10) (hK : pz_K C (some .boolean) 3 64 0 0) (hf : fX10_hasWorth_48 f = some r) : pz_W G C 3 48 [] [] f 0 0 (pz_Q G C (some (.int r)) f 0 0) := by
  unfold fX10_hasWorth_48 at hf
  refine pz_iconst (v := (0 : Int32)) hC dX10_hasWorth_48 (by decide) ?_
  exact tX10_hasWorth_49 hC hK hf
def fnX10_hasWorth (f : pz_H) (a0 : Nat) (p1 : Int32) (p2 : Int32) : Option Int32 :=
  (pz_is f a0 9).bind fun _ =>
  (fnX10_isWho f a0 p1).bind fun x1 =>
  if x1 = 0 then fX10_hasWorth_48 f else
  (fnX10_isMonth p2).bind fun x2 =>
  if x2 = 0 then fX10_hasWorth_48 f else
  (pz_gR f a0 9 1).bind fun v3 =>
  (pz_aI f v3 0 ((1 : Int32))).bind fun v4 =>
  if v4 = ((-1) : Int32) then fX10_hasWorth_48 f else
  (pz_gR f a0 9 1).bind fun v5 =>
  (pz_aI f v5 0 ((0 : Int32))).bind fun v6 =>
  if p2 < v6 then fX10_hasWorth_48 f else
  (fnX10_bornOf f a0 p1).bind fun x7 =>
  if p2 < x7 then fX10_hasWorth_48 f else
  fX10_hasWorth_49 f ((1 : Int32))
theorem mX10_hasWorth {l : Launch} {G : pz_G} {f : pz_H} {a0 : Nat} {p1 : Int32} {p2 : Int32} {r : Int32} (hf : fnX10_hasWorth f a0 p1 p2 = some r) : pz_Met l G yX10_hasWorth cX10_hasWorth 3 (some .boolean) 3 64 0 0 [.ref a0, .int p1, .int p2] f (some (.int r)) f ∧ pz_is f a0 9 = some () := by
  unfold fnX10_hasWorth at hf
  obtain ⟨_, h0, hf⟩ := pz_bd hf
  refine ⟨pz_enter (by decide +kernel) (Nat.le_of_ble_eq_true rfl) (fun C hl hC hK hnm => ?_), h0⟩
  subst hl
  refine pz_sub (lv' := [(0, .ref a0), (1, .int p1), (2, .int p2)]) [0, 1, 2] rfl ?_
  refine pz_aload_n hC dX10_hasWorth_0 0 rfl ?_
  refine pz_iload_n hC dX10_hasWorth_1 1 rfl ?_
  refine pz_Vi (As := [.int p1]) hC hK dX10_hasWorth_2 py_X10_isWho pv_X10_isWho lk_X10_158 hf (fun _ h => mX10_isWho h) rfl rfl (Nat.le_of_ble_eq_true rfl) ⟨by decide, by decide⟩ ⟨Nat.le_of_ble_eq_true rfl, Nat.le_of_ble_eq_true rfl⟩ (fun x1 hf => ?_)
  refine pz_if_eq hC dX10_hasWorth_5 hf (fun _ hf => ?_) (fun _ hf => ?_)
  · refine pz_sub [] rfl ?_
    exact tX10_hasWorth_48 hC hK hf
  · refine pz_iload_n hC dX10_hasWorth_8 2 rfl ?_
    refine pz_Si (As := [.int p2]) hC hK dX10_hasWorth_9 py_X10_isMonth ps_X10_isMonth lk_X10_155 hf (fun _ h => mX10_isMonth h) rfl rfl (Nat.le_of_ble_eq_true rfl) ⟨by decide, by decide⟩ ⟨by decide, by decide⟩ (fun x2 hf => ?_)
    refine pz_if_eq hC dX10_hasWorth_12 hf (fun _ hf => ?_) (fun _ hf => ?_)
    · refine pz_sub [] rfl ?_
      exact tX10_hasWorth_48 hC hK hf
    · refine pz_aload_n hC dX10_hasWorth_15 0 rfl ?_
      refine pz_getR hC dX10_hasWorth_16 fa_X10_7 hf (fun v3 hf => ?_)
      refine pz_iconst (v := (1 : Int32)) hC dX10_hasWorth_19 (by decide) ?_
      refine pz_iald hC dX10_hasWorth_20 hf (fun v4 hf => ?_)
      refine pz_iconst (v := ((-1) : Int32)) hC dX10_hasWorth_21 (by decide) ?_
      refine pz_icmp_eq hC dX10_hasWorth_22 hf (fun _ hf => ?_) (fun _ hf => ?_)
      · refine pz_sub [] rfl ?_
        exact tX10_hasWorth_48 hC hK hf
      · refine pz_aload_n hC dX10_hasWorth_25 0 rfl ?_
        refine pz_getR hC dX10_hasWorth_26 fa_X10_7 hf (fun v5 hf => ?_)
        refine pz_iconst (v := (0 : Int32)) hC dX10_hasWorth_29 (by decide) ?_
        refine pz_iald hC dX10_hasWorth_30 hf (fun v6 hf => ?_)
        refine pz_iload_n hC dX10_hasWorth_31 2 rfl ?_
        refine pz_icmp_gt hC dX10_hasWorth_32 hf (fun _ hf => ?_) (fun _ hf => ?_)
        · refine pz_sub [] rfl ?_
          exact tX10_hasWorth_48 hC hK hf
        · refine pz_aload_n hC dX10_hasWorth_35 0 rfl ?_
          refine pz_iload_n hC dX10_hasWorth_36 1 rfl ?_
          refine pz_Vi (As := [.int p1]) hC hK dX10_hasWorth_37 py_X10_bornOf pv_X10_bornOf lk_X10_103 hf (fun _ h => mX10_bornOf h) rfl rfl (Nat.le_of_ble_eq_true rfl) ⟨by decide, by decide⟩ ⟨Nat.le_of_ble_eq_true rfl, Nat.le_of_ble_eq_true rfl⟩ (fun x7 hf => ?_)
          refine pz_iload_n hC dX10_hasWorth_40 2 rfl ?_
          refine pz_icmp_gt hC dX10_hasWorth_41 hf (fun _ hf => ?_) (fun _ hf => ?_)
          · refine pz_sub [] rfl ?_
            exact tX10_hasWorth_48 hC hK hf
          · refine pz_iconst (v := (1 : Int32)) hC dX10_hasWorth_44 (by decide) ?_
            refine pz_goto hC dX10_hasWorth_45 ?_
            refine pz_sub [] rfl ?_
            exact tX10_hasWorth_49 hC hK hf
def fX10_worth_38 (f : pz_H) (s0 : Int64) : Option (Int64 × pz_H) :=
  some (s0, f)
theorem tX10_worth_38 {G : pz_G} {C : pz_C} {f : pz_H} {s0 : Int64} {r : (Int64 × pz_H)} (hC : pz_OK G C cX10_worth 3 RX10) (hK : pz_K C (some .long) 10 233 0 0) (hf : fX10_worth_38 f s0 = some r) : pz_W G C 3 38 [] [.long s0] f 0 0 (pz_Q G C (some (.long r.1)) r.2 0 0) := by
  unfold fX10_worth_38 at hf
  exact pz_lretw hC hK dX10_worth_38 hf
def fnX10_worth (f : pz_H) (a0 : Nat) (p1 : Int32) (p2 : Int32) : Option (Int64 × pz_H) :=
  (pz_is f a0 9).bind fun _ =>
  (pz_sV f a0 9 0 (.int (0 : Int32))).bind fun f1 =>
  (fnX10_hasWorth f1 a0 p1 p2).bind fun x2 =>
  if x2 = 0 then some (((-1) : Int64), f1) else
  if p1 = (10 : Int32) then (fnX10_worthOfAll f1 a0 p2).bind fun x4 =>
  fX10_worth_38 x4.2 x4.1 else
  (fnX10_worthOfSpouse f1 a0 p1 p2).bind fun x3 =>
  fX10_worth_38 x3.2 x3.1
theorem mX10_worth {l : Launch} {G : pz_G} {f : pz_H} {a0 : Nat} {p1 : Int32} {p2 : Int32} {r : (Int64 × pz_H)} (hf : fnX10_worth f a0 p1 p2 = some r) : pz_Met l G yX10_worth cX10_worth 3 (some .long) 10 233 0 0 [.ref a0, .int p1, .int p2] f (some (.long r.1)) r.2 ∧ pz_is f a0 9 = some () := by
  unfold fnX10_worth at hf
  obtain ⟨_, h0, hf⟩ := pz_bd hf
  refine ⟨pz_enter (by decide +kernel) (Nat.le_of_ble_eq_true rfl) (fun C hl hC hK hnm => ?_), h0⟩
  subst hl
  refine pz_sub (lv' := [(0, .ref a0), (1, .int p1), (2, .int p2)]) [0, 1, 2] rfl ?_
  refine pz_aload_n hC dX10_worth_0 0 rfl ?_
  refine pz_iconst (v := (0 : Int32)) hC dX10_worth_1 (by decide) ?_
  refine pz_putV hC dX10_worth_2 fp_X10_48 rfl rfl hf (fun f1 hf => ?_)
  refine pz_aload_n hC dX10_worth_5 0 rfl ?_
  refine pz_iload_n hC dX10_worth_6 1 rfl ?_
  refine pz_iload_n hC dX10_worth_7 2 rfl ?_
  refine pz_Vi (As := [.int p1, .int p2]) hC hK dX10_worth_8 py_X10_hasWorth pv_X10_hasWorth lk_X10_191 hf (fun _ h => mX10_hasWorth h) rfl rfl (Nat.le_of_ble_eq_true rfl) ⟨by decide, by decide⟩ ⟨Nat.le_of_ble_eq_true rfl, Nat.le_of_ble_eq_true rfl⟩ (fun x2 hf => ?_)
  refine pz_if_ne hC dX10_worth_11 hf (fun _ hf => ?_) (fun _ hf => ?_)
  · refine pz_iload_n hC dX10_worth_18 1 rfl ?_
    refine pz_bipush (v := (10 : Int32)) hC dX10_worth_19 (by decide) ?_
    refine pz_icmp_ne hC dX10_worth_21 hf (fun _ hf => ?_) (fun _ hf => ?_)
    · refine pz_aload_n hC dX10_worth_32 0 rfl ?_
      refine pz_iload_n hC dX10_worth_33 1 rfl ?_
      refine pz_iload_n hC dX10_worth_34 2 rfl ?_
      refine pz_Vlw (As := [.int p1, .int p2]) hC hK dX10_worth_35 py_X10_worthOfSpouse pv_X10_worthOfSpouse lk_X10_197 hf (fun _ h => mX10_worthOfSpouse h) rfl rfl (Nat.le_of_ble_eq_true rfl) ⟨by decide, by decide⟩ ⟨Nat.le_of_ble_eq_true rfl, Nat.le_of_ble_eq_true rfl⟩ (fun x3 hf => ?_)
      refine pz_sub [] rfl ?_
      exact tX10_worth_38 hC hK hf
    · refine pz_aload_n hC dX10_worth_24 0 rfl ?_
      refine pz_iload_n hC dX10_worth_25 2 rfl ?_
      refine pz_Vlw (As := [.int p2]) hC hK dX10_worth_26 py_X10_worthOfAll pv_X10_worthOfAll lk_X10_194 hf (fun _ h => mX10_worthOfAll h) rfl rfl (Nat.le_of_ble_eq_true rfl) ⟨by decide, by decide⟩ ⟨Nat.le_of_ble_eq_true rfl, Nat.le_of_ble_eq_true rfl⟩ (fun x4 hf => ?_)
      refine pz_goto hC dX10_worth_29 ?_
      refine pz_sub [] rfl ?_
      exact tX10_worth_38 hC hK hf
  · refine pz_ldc2 hC dX10_worth_14 ck_X10_185 ?_
    exact pz_lretw hC hK dX10_worth_17 hf
def fX10_claimBest_27 (f : pz_H) : Option (Int32 × pz_H) :=
  some (((-1) : Int32), f)
theorem tX10_claimBest_27 {G : pz_G} {C : pz_C} {f : pz_H} {r : (Int32 × pz_H)} (hC : pz_OK G C cX10_claimBest 9 RX10) (hK : pz_K C (some .int) 10 233 0 0) (hf : fX10_claimBest_27 f = some r) : pz_W G C 9 27 [] [] f 0 0 (pz_Q G C (some (.int r.1)) r.2 0 0) := by
  unfold fX10_claimBest_27 at hf
  refine pz_iconst (v := ((-1) : Int32)) hC dX10_claimBest_27 (by decide) ?_
  exact pz_iretw hC hK dX10_claimBest_28 hf
def fX10_claimBest_123 (k50 : pz_H → Nat → Int32 → Int32 → Int32 → Int64 → Int32 → Option (Int32 × pz_H)) (f : pz_H) (l0 : Nat) (l1 : Int32) (l2 : Int32) (l3 : Int32) (l4 : Int64) (l6 : Int32) : Option (Int32 × pz_H) :=
  k50 f l0 l1 l2 l3 l4 ((l6 + 1))
theorem tX10_claimBest_123 {G : pz_G} {C : pz_C} {f : pz_H} {k50 : pz_H → Nat → Int32 → Int32 → Int32 → Int64 → Int32 → Option (Int32 × pz_H)} {l0 : Nat} {l1 : Int32} {l2 : Int32} {l3 : Int32} {l4 : Int64} {l6 : Int32} {r : (Int32 × pz_H)} (hC : pz_OK G C cX10_claimBest 9 RX10) (hK : pz_K C (some .int) 10 233 0 0) (hk50 : ∀ (g : pz_H) (a0 : Nat) (a1 : Int32) (a2 : Int32) (a3 : Int32) (a4 : Int64) (a6 : Int32), k50 g a0 a1 a2 a3 a4 a6 = some r → pz_W G C 9 50 [(0, .ref a0), (1, .int a1), (2, .int a2), (3, .int a3), (4, .long a4), (6, .int a6)] [] g 0 0 (pz_Q G C (some (.int r.1)) r.2 0 0)) (hf : fX10_claimBest_123 k50 f l0 l1 l2 l3 l4 l6 = some r) : pz_W G C 9 123 [(0, .ref l0), (1, .int l1), (2, .int l2), (3, .int l3), (4, .long l4), (6, .int l6)] [] f 0 0 (pz_Q G C (some (.int r.1)) r.2 0 0) := by
  unfold fX10_claimBest_123 at hf
  refine pz_iinc (v := (l6 + 1)) hC dX10_claimBest_123 5 rfl rfl (by decide) rfl ?_
  refine pz_goto hC dX10_claimBest_126 ?_
  refine pz_sub [1, 2, 3, 4, 5, 0] rfl ?_
  exact hk50 _ _ _ _ _ _ _ hf
def fX10_claimBest_116 (k50 : pz_H → Nat → Int32 → Int32 → Int32 → Int64 → Int32 → Option (Int32 × pz_H)) (f : pz_H) (l0 : Nat) (l1 : Int32) (l2 : Int32) (l6 : Int32) (l7 : Int64) : Option (Int32 × pz_H) :=
  fX10_claimBest_123 k50 f l0 l1 l2 l6 l7 l6
theorem tX10_claimBest_116 {G : pz_G} {C : pz_C} {f : pz_H} {k50 : pz_H → Nat → Int32 → Int32 → Int32 → Int64 → Int32 → Option (Int32 × pz_H)} {l0 : Nat} {l1 : Int32} {l2 : Int32} {l6 : Int32} {l7 : Int64} {r : (Int32 × pz_H)} (hC : pz_OK G C cX10_claimBest 9 RX10) (hK : pz_K C (some .int) 10 233 0 0) (hk50 : ∀ (g : pz_H) (a0 : Nat) (a1 : Int32) (a2 : Int32) (a3 : Int32) (a4 : Int64) (a6 : Int32), k50 g a0 a1 a2 a3 a4 a6 = some r → pz_W G C 9 50 [(0, .ref a0), (1, .int a1), (2, .int a2), (3, .int a3), (4, .long a4), (6, .int a6)] [] g 0 0 (pz_Q G C (some (.int r.1)) r.2 0 0)) (hf : fX10_claimBest_116 k50 f l0 l1 l2 l6 l7 = some r) : pz_W G C 9 116 [(0, .ref l0), (1, .int l1), (2, .int l2), (6, .int l6), (7, .long l7)] [] f 0 0 (pz_Q G C (some (.int r.1)) r.2 0 0) := by
  unfold fX10_claimBest_116 at hf
  refine pz_iload hC dX10_claimBest_116 3 rfl ?_
  refine pz_istore_n hC dX10_claimBest_118 (by decide) rfl ?_
  refine pz_lload hC dX10_claimBest_119 5 rfl ?_
  refine pz_lstore hC dX10_claimBest_121 (by decide) rfl ?_
  refine pz_sub [2, 3, 4, 1, 0, 5] rfl ?_
  exact tX10_claimBest_123 hC hK hk50 hf
def fX10_claimBest_129 (f : pz_H) (l0 : Nat) (l1 : Int32) (l2 : Int32) (l3 : Int32) : Option (Int32 × pz_H) :=
  (pz_gR f l0 9 1).bind fun v1 =>
  (pz_tI f v1 0 ((((35 : Int32) + ((8 : Int32) * l1)) + (6 : Int32))) l2).bind fun f2 =>
  some (l3, f2)
theorem tX10_claimBest_129 {G : pz_G} {C : pz_C} {f : pz_H} {l0 : Nat} {l1 : Int32} {l2 : Int32} {l3 : Int32} {r : (Int32 × pz_H)} (hC : pz_OK G C cX10_claimBest 9 RX10) (hK : pz_K C (some .int) 10 233 0 0) (hf : fX10_claimBest_129 f l0 l1 l2 l3 = some r) : pz_W G C 9 129 [(0, .ref l0), (1, .int l1), (2, .int l2), (3, .int l3)] [] f 0 0 (pz_Q G C (some (.int r.1)) r.2 0 0) := by
  unfold fX10_claimBest_129 at hf
  refine pz_aload_n hC dX10_claimBest_129 0 rfl ?_
  refine pz_getR hC dX10_claimBest_130 fa_X10_7 hf (fun v1 hf => ?_)
  refine pz_bipush (v := (35 : Int32)) hC dX10_claimBest_133 (by decide) ?_
  refine pz_bipush (v := (8 : Int32)) hC dX10_claimBest_135 (by decide) ?_
  refine pz_iload_n hC dX10_claimBest_137 1 rfl ?_
  refine pz_imul hC dX10_claimBest_138 ?_
  refine pz_iadd hC dX10_claimBest_139 ?_
  refine pz_bipush (v := (6 : Int32)) hC dX10_claimBest_140 (by decide) ?_
  refine pz_iadd hC dX10_claimBest_142 ?_
  refine pz_iload_n hC dX10_claimBest_143 2 rfl ?_
  refine pz_iast hC dX10_claimBest_144 hf (fun f2 hf => ?_)
  refine pz_iload_n hC dX10_claimBest_145 3 rfl ?_
  exact pz_iretw hC hK dX10_claimBest_146 hf
def fX10_claimBest_50b (k50 : pz_H → Nat → Int32 → Int32 → Int32 → Int64 → Int32 → Option (Int32 × pz_H)) (f : pz_H) (l0 : Nat) (l1 : Int32) (l2 : Int32) (l3 : Int32) (l4 : Int64) (l6 : Int32) : Option (Int32 × pz_H) :=
  (pz_gR f l0 9 1).bind fun v1 =>
  (pz_aI f v1 0 ((1 : Int32))).bind fun v2 =>
  if (v2 + (240 : Int32)) < l6 then fX10_claimBest_129 f l0 l1 l2 l3 else
  if (1800 : Int32) ≤ l6 then fX10_claimBest_129 f l0 l1 l2 l3 else
  (pz_gR f l0 9 1).bind fun v3 =>
  (pz_tI f v3 0 ((((35 : Int32) + ((8 : Int32) * l1)) + (6 : Int32))) l6).bind fun f4 =>
  (pz_gR f4 l0 9 1).bind fun v5 =>
  (pz_aI f4 v5 0 ((1 : Int32))).bind fun v6 =>
  (fnX10_worthOfSpouse f4 l0 l1 v6).bind fun x7 =>
  if l3 = ((-1) : Int32) then fX10_claimBest_116 k50 x7.2 l0 l1 l2 l6 x7.1 else
  if (lg_cmp x7.1 l4) ≤ 0 then fX10_claimBest_123 k50 x7.2 l0 l1 l2 l3 l4 l6 else
  fX10_claimBest_116 k50 x7.2 l0 l1 l2 l6 x7.1
theorem tX10_claimBest_50b {G : pz_G} {C : pz_C} {f : pz_H} {k50 : pz_H → Nat → Int32 → Int32 → Int32 → Int64 → Int32 → Option (Int32 × pz_H)} {l0 : Nat} {l1 : Int32} {l2 : Int32} {l3 : Int32} {l4 : Int64} {l6 : Int32} {r : (Int32 × pz_H)} (hC : pz_OK G C cX10_claimBest 9 RX10) (hK : pz_K C (some .int) 10 233 0 0) (hk50 : ∀ (g : pz_H) (a0 : Nat) (a1 : Int32) (a2 : Int32) (a3 : Int32) (a4 : Int64) (a6 : Int32), k50 g a0 a1 a2 a3 a4 a6 = some r → pz_W G C 9 50 [(0, .ref a0), (1, .int a1), (2, .int a2), (3, .int a3), (4, .long a4), (6, .int a6)] [] g 0 0 (pz_Q G C (some (.int r.1)) r.2 0 0)) (hf : fX10_claimBest_50b k50 f l0 l1 l2 l3 l4 l6 = some r) : pz_W G C 9 50 [(0, .ref l0), (1, .int l1), (2, .int l2), (3, .int l3), (4, .long l4), (6, .int l6)] [] f 0 0 (pz_Q G C (some (.int r.1)) r.2 0 0) := by
  unfold fX10_claimBest_50b at hf
  refine pz_iload hC dX10_claimBest_50 5 rfl ?_
  refine pz_aload_n hC dX10_claimBest_52 0 rfl ?_
  refine pz_getR hC dX10_claimBest_53 fa_X10_7 hf (fun v1 hf => ?_)
  refine pz_iconst (v := (1 : Int32)) hC dX10_claimBest_56 (by decide) ?_
  refine pz_iald hC dX10_claimBest_57 hf (fun v2 hf => ?_)
  refine pz_sipush (v := (240 : Int32)) hC dX10_claimBest_58 (by decide) ?_
  refine pz_iadd hC dX10_claimBest_61 ?_
  refine pz_icmp_gt hC dX10_claimBest_62 hf (fun _ hf => ?_) (fun _ hf => ?_)
  · refine pz_sub [0, 1, 2, 3] rfl ?_
    exact tX10_claimBest_129 hC hK hf
  · refine pz_iload hC dX10_claimBest_65 5 rfl ?_
    refine pz_sipush (v := (1800 : Int32)) hC dX10_claimBest_67 (by decide) ?_
    refine pz_icmp_ge hC dX10_claimBest_70 hf (fun _ hf => ?_) (fun _ hf => ?_)
    · refine pz_sub [0, 1, 2, 3] rfl ?_
      exact tX10_claimBest_129 hC hK hf
    · refine pz_aload_n hC dX10_claimBest_73 0 rfl ?_
      refine pz_getR hC dX10_claimBest_74 fa_X10_7 hf (fun v3 hf => ?_)
      refine pz_bipush (v := (35 : Int32)) hC dX10_claimBest_77 (by decide) ?_
      refine pz_bipush (v := (8 : Int32)) hC dX10_claimBest_79 (by decide) ?_
      refine pz_iload_n hC dX10_claimBest_81 1 rfl ?_
      refine pz_imul hC dX10_claimBest_82 ?_
      refine pz_iadd hC dX10_claimBest_83 ?_
      refine pz_bipush (v := (6 : Int32)) hC dX10_claimBest_84 (by decide) ?_
      refine pz_iadd hC dX10_claimBest_86 ?_
      refine pz_iload hC dX10_claimBest_87 5 rfl ?_
      refine pz_iast hC dX10_claimBest_89 hf (fun f4 hf => ?_)
      refine pz_aload_n hC dX10_claimBest_90 0 rfl ?_
      refine pz_iload_n hC dX10_claimBest_91 1 rfl ?_
      refine pz_aload_n hC dX10_claimBest_92 0 rfl ?_
      refine pz_getR hC dX10_claimBest_93 fa_X10_7 hf (fun v5 hf => ?_)
      refine pz_iconst (v := (1 : Int32)) hC dX10_claimBest_96 (by decide) ?_
      refine pz_iald hC dX10_claimBest_97 hf (fun v6 hf => ?_)
      refine pz_Vlw (As := [.int l1, .int v6]) hC hK dX10_claimBest_98 py_X10_worthOfSpouse pv_X10_worthOfSpouse lk_X10_197 hf (fun _ h => mX10_worthOfSpouse h) rfl rfl (Nat.le_of_ble_eq_true rfl) ⟨by decide, by decide⟩ ⟨Nat.le_of_ble_eq_true rfl, Nat.le_of_ble_eq_true rfl⟩ (fun x7 hf => ?_)
      refine pz_lstore hC dX10_claimBest_101 (by decide) rfl ?_
      refine pz_iload_n hC dX10_claimBest_103 4 rfl ?_
      refine pz_iconst (v := ((-1) : Int32)) hC dX10_claimBest_104 (by decide) ?_
      refine pz_icmp_eq hC dX10_claimBest_105 hf (fun _ hf => ?_) (fun _ hf => ?_)
      · refine pz_sub [1, 2, 3, 6, 0] rfl ?_
        exact tX10_claimBest_116 hC hK hk50 hf
      · refine pz_lload hC dX10_claimBest_108 0 rfl ?_
        refine pz_lload hC dX10_claimBest_110 5 rfl ?_
        refine pz_lcmp hC dX10_claimBest_112 ?_
        refine pz_if_le hC dX10_claimBest_113 hf (fun _ hf => ?_) (fun _ hf => ?_)
        · refine pz_sub [1, 2, 3, 4, 5, 6] rfl ?_
          exact tX10_claimBest_123 hC hK hk50 hf
        · refine pz_sub [1, 2, 3, 6, 0] rfl ?_
          exact tX10_claimBest_116 hC hK hk50 hf
def fX10_claimBest_50 : Nat → pz_H → Nat → Int32 → Int32 → Int32 → Int64 → Int32 → Option (Int32 × pz_H)
  | 0, _, _, _, _, _, _, _ => none
  | n + 1, f, l0, l1, l2, l3, l4, l6 => fX10_claimBest_50b (fX10_claimBest_50 n) f l0 l1 l2 l3 l4 l6
theorem tX10_claimBest_50 {G : pz_G} {C : pz_C} {r : (Int32 × pz_H)} (hC : pz_OK G C cX10_claimBest 9 RX10) (hK : pz_K C (some .int) 10 233 0 0) : ∀ (N : Nat) (f : pz_H) (l0 : Nat) (l1 : Int32) (l2 : Int32) (l3 : Int32) (l4 : Int64) (l6 : Int32), fX10_claimBest_50 N f l0 l1 l2 l3 l4 l6 = some r → pz_W G C 9 50 [(0, .ref l0), (1, .int l1), (2, .int l2), (3, .int l3), (4, .long l4), (6, .int l6)] [] f 0 0 (pz_Q G C (some (.int r.1)) r.2 0 0) := by
  intro N
  induction N with
  | zero => intro f l0 l1 l2 l3 l4 l6 hf; cases hf
  | succ N ih => intro f l0 l1 l2 l3 l4 l6 hf; exact tX10_claimBest_50b hC hK (fun f l0 l1 l2 l3 l4 l6 hf => ih f l0 l1 l2 l3 l4 l6 hf) hf
def fnX10_claimBest (f : pz_H) (a0 : Nat) (p1 : Int32) : Option (Int32 × pz_H) :=
  (pz_is f a0 9).bind fun _ =>
  (pz_sV f a0 9 0 (.int (0 : Int32))).bind fun f1 =>
  (fnX10_isSpouse f1 a0 p1).bind fun x2 =>
  if x2 = 0 then fX10_claimBest_27 f1 else
  (pz_gR f1 a0 9 1).bind fun v3 =>
  (pz_aI f1 v3 0 ((1 : Int32))).bind fun v4 =>
  (fnX10_hasWorth f1 a0 p1 v4).bind fun x5 =>
  if x5 = 0 then fX10_claimBest_27 f1 else
  (fnX10_its f1 a0 p1 ((6 : Int32))).bind fun x6 =>
  (pz_gR f1 a0 9 1).bind fun v7 =>
  (pz_aI f1 v7 0 ((1 : Int32))).bind fun v8 =>
  fX10_claimBest_50 pz_F f1 a0 p1 x6 (((-1) : Int32)) ((0 : Int64)) v8
theorem mX10_claimBest {l : Launch} {G : pz_G} {f : pz_H} {a0 : Nat} {p1 : Int32} {r : (Int32 × pz_H)} (hf : fnX10_claimBest f a0 p1 = some r) : pz_Met l G yX10_claimBest cX10_claimBest 9 (some .int) 10 233 0 0 [.ref a0, .int p1] f (some (.int r.1)) r.2 ∧ pz_is f a0 9 = some () := by
  unfold fnX10_claimBest at hf
  obtain ⟨_, h0, hf⟩ := pz_bd hf
  refine ⟨pz_enter (by decide +kernel) (Nat.le_of_ble_eq_true rfl) (fun C hl hC hK hnm => ?_), h0⟩
  subst hl
  refine pz_sub (lv' := [(0, .ref a0), (1, .int p1)]) [0, 1] rfl ?_
  refine pz_aload_n hC dX10_claimBest_0 0 rfl ?_
  refine pz_iconst (v := (0 : Int32)) hC dX10_claimBest_1 (by decide) ?_
  refine pz_putV hC dX10_claimBest_2 fp_X10_48 rfl rfl hf (fun f1 hf => ?_)
  refine pz_aload_n hC dX10_claimBest_5 0 rfl ?_
  refine pz_iload_n hC dX10_claimBest_6 1 rfl ?_
  refine pz_Vi (As := [.int p1]) hC hK dX10_claimBest_7 py_X10_isSpouse pv_X10_isSpouse lk_X10_149 hf (fun _ h => mX10_isSpouse h) rfl rfl (Nat.le_of_ble_eq_true rfl) ⟨by decide, by decide⟩ ⟨Nat.le_of_ble_eq_true rfl, Nat.le_of_ble_eq_true rfl⟩ (fun x2 hf => ?_)
  refine pz_if_eq hC dX10_claimBest_10 hf (fun _ hf => ?_) (fun _ hf => ?_)
  · refine pz_sub [] rfl ?_
    exact tX10_claimBest_27 hC hK hf
  · refine pz_aload_n hC dX10_claimBest_13 0 rfl ?_
    refine pz_iload_n hC dX10_claimBest_14 1 rfl ?_
    refine pz_aload_n hC dX10_claimBest_15 0 rfl ?_
    refine pz_getR hC dX10_claimBest_16 fa_X10_7 hf (fun v3 hf => ?_)
    refine pz_iconst (v := (1 : Int32)) hC dX10_claimBest_19 (by decide) ?_
    refine pz_iald hC dX10_claimBest_20 hf (fun v4 hf => ?_)
    refine pz_Vi (As := [.int p1, .int v4]) hC hK dX10_claimBest_21 py_X10_hasWorth pv_X10_hasWorth lk_X10_191 hf (fun _ h => mX10_hasWorth h) rfl rfl (Nat.le_of_ble_eq_true rfl) ⟨by decide, by decide⟩ ⟨Nat.le_of_ble_eq_true rfl, Nat.le_of_ble_eq_true rfl⟩ (fun x5 hf => ?_)
    refine pz_if_ne hC dX10_claimBest_24 hf (fun _ hf => ?_) (fun _ hf => ?_)
    · refine pz_aload_n hC dX10_claimBest_29 0 rfl ?_
      refine pz_iload_n hC dX10_claimBest_30 1 rfl ?_
      refine pz_bipush (v := (6 : Int32)) hC dX10_claimBest_31 (by decide) ?_
      refine pz_Vi (As := [.int p1, .int (6 : Int32)]) hC hK dX10_claimBest_33 py_X10_its pv_X10_its lk_X10_56 hf (fun _ h => mX10_its h) rfl rfl (Nat.le_of_ble_eq_true rfl) ⟨by decide, by decide⟩ ⟨Nat.le_of_ble_eq_true rfl, Nat.le_of_ble_eq_true rfl⟩ (fun x6 hf => ?_)
      refine pz_istore_n hC dX10_claimBest_36 (by decide) rfl ?_
      refine pz_iconst (v := ((-1) : Int32)) hC dX10_claimBest_37 (by decide) ?_
      refine pz_istore_n hC dX10_claimBest_38 (by decide) rfl ?_
      refine pz_lconst (v := 0) hC dX10_claimBest_39 (by decide) ?_
      refine pz_lstore hC dX10_claimBest_40 (by decide) rfl ?_
      refine pz_aload_n hC dX10_claimBest_42 3 rfl ?_
      refine pz_getR hC dX10_claimBest_43 fa_X10_7 hf (fun v7 hf => ?_)
      refine pz_iconst (v := (1 : Int32)) hC dX10_claimBest_46 (by decide) ?_
      refine pz_iald hC dX10_claimBest_47 hf (fun v8 hf => ?_)
      refine pz_istore hC dX10_claimBest_48 (by decide) rfl ?_
      refine pz_sub [4, 5, 3, 2, 1, 0] rfl ?_
      exact tX10_claimBest_50 hC hK _ _ _ _ _ _ _ _ hf
    · refine pz_sub [] rfl ?_
      exact tX10_claimBest_27 hC hK hf
def fX10_half_35 (f : pz_H) : Option (Int32 × pz_H) :=
  some (((-1) : Int32), f)
theorem tX10_half_35 {G : pz_G} {C : pz_C} {f : pz_H} {r : (Int32 × pz_H)} (hC : pz_OK G C cX10_half 7 RX10) (hK : pz_K C (some .int) 10 233 0 0) (hf : fX10_half_35 f = some r) : pz_W G C 7 35 [] [] f 0 0 (pz_Q G C (some (.int r.1)) r.2 0 0) := by
  unfold fX10_half_35 at hf
  refine pz_iconst (v := ((-1) : Int32)) hC dX10_half_35 (by decide) ?_
  exact pz_iretw hC hK dX10_half_36 hf
def fX10_half_118 (k62 : pz_H → Nat → Int32 → Int64 → Int32 → Int32 → Int32 → Option (Int32 × pz_H)) (f : pz_H) (l0 : Nat) (l1 : Int32) (l2 : Int64) (l4 : Int32) (l6 : Int32) (s0 : Int32) : Option (Int32 × pz_H) :=
  k62 f l0 l1 l2 l4 s0 ((l6 + 1))
theorem tX10_half_118 {G : pz_G} {C : pz_C} {f : pz_H} {k62 : pz_H → Nat → Int32 → Int64 → Int32 → Int32 → Int32 → Option (Int32 × pz_H)} {l0 : Nat} {l1 : Int32} {l2 : Int64} {l4 : Int32} {l6 : Int32} {s0 : Int32} {r : (Int32 × pz_H)} (hC : pz_OK G C cX10_half 7 RX10) (hK : pz_K C (some .int) 10 233 0 0) (hk62 : ∀ (g : pz_H) (a0 : Nat) (a1 : Int32) (a2 : Int64) (a4 : Int32) (a5 : Int32) (a6 : Int32), k62 g a0 a1 a2 a4 a5 a6 = some r → pz_W G C 7 62 [(0, .ref a0), (1, .int a1), (2, .long a2), (4, .int a4), (5, .int a5), (6, .int a6)] [] g 0 0 (pz_Q G C (some (.int r.1)) r.2 0 0)) (hf : fX10_half_118 k62 f l0 l1 l2 l4 l6 s0 = some r) : pz_W G C 7 118 [(0, .ref l0), (1, .int l1), (2, .long l2), (4, .int l4), (6, .int l6)] [.int s0] f 0 0 (pz_Q G C (some (.int r.1)) r.2 0 0) := by
  unfold fX10_half_118 at hf
  refine pz_istore hC dX10_half_118 (by decide) rfl ?_
  refine pz_iinc (v := (l6 + 1)) hC dX10_half_120 5 rfl rfl (by decide) rfl ?_
  refine pz_goto hC dX10_half_123 ?_
  refine pz_sub [2, 3, 4, 5, 1, 0] rfl ?_
  exact hk62 _ _ _ _ _ _ _ hf
def fX10_half_126 (f : pz_H) (l0 : Nat) (l1 : Int32) (l4 : Int32) (l5 : Int32) : Option (Int32 × pz_H) :=
  (pz_gR f l0 9 1).bind fun v1 =>
  (pz_tI f v1 0 ((((35 : Int32) + ((8 : Int32) * l1)) + (3 : Int32))) l4).bind fun f2 =>
  some (l5, f2)
theorem tX10_half_126 {G : pz_G} {C : pz_C} {f : pz_H} {l0 : Nat} {l1 : Int32} {l4 : Int32} {l5 : Int32} {r : (Int32 × pz_H)} (hC : pz_OK G C cX10_half 7 RX10) (hK : pz_K C (some .int) 10 233 0 0) (hf : fX10_half_126 f l0 l1 l4 l5 = some r) : pz_W G C 7 126 [(0, .ref l0), (1, .int l1), (4, .int l4), (5, .int l5)] [] f 0 0 (pz_Q G C (some (.int r.1)) r.2 0 0) := by
  unfold fX10_half_126 at hf
  refine pz_aload_n hC dX10_half_126 0 rfl ?_
  refine pz_getR hC dX10_half_127 fa_X10_7 hf (fun v1 hf => ?_)
  refine pz_bipush (v := (35 : Int32)) hC dX10_half_130 (by decide) ?_
  refine pz_bipush (v := (8 : Int32)) hC dX10_half_132 (by decide) ?_
  refine pz_iload_n hC dX10_half_134 1 rfl ?_
  refine pz_imul hC dX10_half_135 ?_
  refine pz_iadd hC dX10_half_136 ?_
  refine pz_iconst (v := (3 : Int32)) hC dX10_half_137 (by decide) ?_
  refine pz_iadd hC dX10_half_138 ?_
  refine pz_iload hC dX10_half_139 2 rfl ?_
  refine pz_iast hC dX10_half_141 hf (fun f2 hf => ?_)
  refine pz_iload hC dX10_half_142 3 rfl ?_
  exact pz_iretw hC hK dX10_half_144 hf
def fX10_half_62b (k62 : pz_H → Nat → Int32 → Int64 → Int32 → Int32 → Int32 → Option (Int32 × pz_H)) (f : pz_H) (l0 : Nat) (l1 : Int32) (l2 : Int64) (l4 : Int32) (l5 : Int32) (l6 : Int32) : Option (Int32 × pz_H) :=
  if (1000 : Int32) < l6 then fX10_half_126 f l0 l1 l4 l5 else
  if l5 = ((-1) : Int32) then (pz_gR f l0 9 1).bind fun v1 =>
  (pz_tI f v1 0 ((((35 : Int32) + ((8 : Int32) * l1)) + (3 : Int32))) l6).bind fun f2 =>
  (pz_gR f2 l0 9 1).bind fun v3 =>
  (pz_aI f2 v3 0 ((1 : Int32))).bind fun v4 =>
  (fnX10_worthOfSpouse f2 l0 l1 v4).bind fun x5 =>
  if (lg_cmp (((2 : Int64) * x5.1)) l2) < 0 then fX10_half_118 k62 x5.2 l0 l1 l2 l4 l6 (((-1) : Int32)) else
  fX10_half_118 k62 x5.2 l0 l1 l2 l4 l6 l6 else
  fX10_half_126 f l0 l1 l4 l5
theorem tX10_half_62b {G : pz_G} {C : pz_C} {f : pz_H} {k62 : pz_H → Nat → Int32 → Int64 → Int32 → Int32 → Int32 → Option (Int32 × pz_H)} {l0 : Nat} {l1 : Int32} {l2 : Int64} {l4 : Int32} {l5 : Int32} {l6 : Int32} {r : (Int32 × pz_H)} (hC : pz_OK G C cX10_half 7 RX10) (hK : pz_K C (some .int) 10 233 0 0) (hk62 : ∀ (g : pz_H) (a0 : Nat) (a1 : Int32) (a2 : Int64) (a4 : Int32) (a5 : Int32) (a6 : Int32), k62 g a0 a1 a2 a4 a5 a6 = some r → pz_W G C 7 62 [(0, .ref a0), (1, .int a1), (2, .long a2), (4, .int a4), (5, .int a5), (6, .int a6)] [] g 0 0 (pz_Q G C (some (.int r.1)) r.2 0 0)) (hf : fX10_half_62b k62 f l0 l1 l2 l4 l5 l6 = some r) : pz_W G C 7 62 [(0, .ref l0), (1, .int l1), (2, .long l2), (4, .int l4), (5, .int l5), (6, .int l6)] [] f 0 0 (pz_Q G C (some (.int r.1)) r.2 0 0) := by
  unfold fX10_half_62b at hf
  refine pz_iload hC dX10_half_62 5 rfl ?_
  refine pz_sipush (v := (1000 : Int32)) hC dX10_half_64 (by decide) ?_
  refine pz_icmp_gt hC dX10_half_67 hf (fun _ hf => ?_) (fun _ hf => ?_)
  · refine pz_sub [0, 1, 3, 4] rfl ?_
    exact tX10_half_126 hC hK hf
  · refine pz_iload hC dX10_half_70 4 rfl ?_
    refine pz_iconst (v := ((-1) : Int32)) hC dX10_half_72 (by decide) ?_
    refine pz_icmp_ne hC dX10_half_73 hf (fun _ hf => ?_) (fun _ hf => ?_)
    · refine pz_sub [0, 1, 3, 4] rfl ?_
      exact tX10_half_126 hC hK hf
    · refine pz_aload_n hC dX10_half_76 0 rfl ?_
      refine pz_getR hC dX10_half_77 fa_X10_7 hf (fun v1 hf => ?_)
      refine pz_bipush (v := (35 : Int32)) hC dX10_half_80 (by decide) ?_
      refine pz_bipush (v := (8 : Int32)) hC dX10_half_82 (by decide) ?_
      refine pz_iload_n hC dX10_half_84 1 rfl ?_
      refine pz_imul hC dX10_half_85 ?_
      refine pz_iadd hC dX10_half_86 ?_
      refine pz_iconst (v := (3 : Int32)) hC dX10_half_87 (by decide) ?_
      refine pz_iadd hC dX10_half_88 ?_
      refine pz_iload hC dX10_half_89 5 rfl ?_
      refine pz_iast hC dX10_half_91 hf (fun f2 hf => ?_)
      refine pz_ldc2 hC dX10_half_92 ck_X10_200 ?_
      refine pz_aload_n hC dX10_half_95 0 rfl ?_
      refine pz_iload_n hC dX10_half_96 1 rfl ?_
      refine pz_aload_n hC dX10_half_97 0 rfl ?_
      refine pz_getR hC dX10_half_98 fa_X10_7 hf (fun v3 hf => ?_)
      refine pz_iconst (v := (1 : Int32)) hC dX10_half_101 (by decide) ?_
      refine pz_iald hC dX10_half_102 hf (fun v4 hf => ?_)
      refine pz_Vlw (As := [.int l1, .int v4]) hC hK dX10_half_103 py_X10_worthOfSpouse pv_X10_worthOfSpouse lk_X10_197 hf (fun _ h => mX10_worthOfSpouse h) rfl rfl (Nat.le_of_ble_eq_true rfl) ⟨by decide, by decide⟩ ⟨Nat.le_of_ble_eq_true rfl, Nat.le_of_ble_eq_true rfl⟩ (fun x5 hf => ?_)
      refine pz_lmul hC dX10_half_106 ?_
      refine pz_lload_n hC dX10_half_107 2 rfl ?_
      refine pz_lcmp hC dX10_half_108 ?_
      refine pz_if_lt hC dX10_half_109 hf (fun _ hf => ?_) (fun _ hf => ?_)
      · refine pz_iconst (v := ((-1) : Int32)) hC dX10_half_117 (by decide) ?_
        refine pz_sub [0, 1, 2, 3, 5] rfl ?_
        exact tX10_half_118 hC hK hk62 hf
      · refine pz_iload hC dX10_half_112 5 rfl ?_
        refine pz_goto hC dX10_half_114 ?_
        refine pz_sub [0, 1, 2, 3, 5] rfl ?_
        exact tX10_half_118 hC hK hk62 hf
def fX10_half_62 : Nat → pz_H → Nat → Int32 → Int64 → Int32 → Int32 → Int32 → Option (Int32 × pz_H)
  | 0, _, _, _, _, _, _, _ => none
  | n + 1, f, l0, l1, l2, l4, l5, l6 => fX10_half_62b (fX10_half_62 n) f l0 l1 l2 l4 l5 l6
theorem tX10_half_62 {G : pz_G} {C : pz_C} {r : (Int32 × pz_H)} (hC : pz_OK G C cX10_half 7 RX10) (hK : pz_K C (some .int) 10 233 0 0) : ∀ (N : Nat) (f : pz_H) (l0 : Nat) (l1 : Int32) (l2 : Int64) (l4 : Int32) (l5 : Int32) (l6 : Int32), fX10_half_62 N f l0 l1 l2 l4 l5 l6 = some r → pz_W G C 7 62 [(0, .ref l0), (1, .int l1), (2, .long l2), (4, .int l4), (5, .int l5), (6, .int l6)] [] f 0 0 (pz_Q G C (some (.int r.1)) r.2 0 0) := by
  intro N
  induction N with
  | zero => intro f l0 l1 l2 l4 l5 l6 hf; cases hf
  | succ N ih => intro f l0 l1 l2 l4 l5 l6 hf; exact tX10_half_62b hC hK (fun f l0 l1 l2 l4 l5 l6 hf => ih f l0 l1 l2 l4 l5 l6 hf) hf
def fnX10_half (f : pz_H) (a0 : Nat) (p1 : Int32) : Option (Int32 × pz_H) :=
  (pz_is f a0 9).bind fun _ =>
  (pz_sV f a0 9 0 (.int (0 : Int32))).bind fun f1 =>
  (fnX10_isSpouse f1 a0 p1).bind fun x2 =>
  if x2 = 0 then fX10_half_35 f1 else
  (fnX10_isParted f1 a0 p1).bind fun x3 =>
  if x3 = 0 then fX10_half_35 f1 else
  (pz_gR f1 a0 9 1).bind fun v4 =>
  (pz_aI f1 v4 0 ((1 : Int32))).bind fun v5 =>
  (fnX10_hasWorth f1 a0 p1 v5).bind fun x6 =>
  if x6 = 0 then fX10_half_35 f1 else
  (pz_gR f1 a0 9 1).bind fun v7 =>
  (pz_aI f1 v7 0 ((1 : Int32))).bind fun v8 =>
  (fnX10_worthOfAll f1 a0 v8).bind fun x9 =>
  (fnX10_its x9.2 a0 p1 ((3 : Int32))).bind fun x10 =>
  fX10_half_62 pz_F x9.2 a0 p1 x9.1 x10 (((-1) : Int32)) ((0 : Int32))
theorem mX10_half {l : Launch} {G : pz_G} {f : pz_H} {a0 : Nat} {p1 : Int32} {r : (Int32 × pz_H)} (hf : fnX10_half f a0 p1 = some r) : pz_Met l G yX10_half cX10_half 7 (some .int) 10 233 0 0 [.ref a0, .int p1] f (some (.int r.1)) r.2 ∧ pz_is f a0 9 = some () := by
  unfold fnX10_half at hf
  obtain ⟨_, h0, hf⟩ := pz_bd hf
  refine ⟨pz_enter (by decide +kernel) (Nat.le_of_ble_eq_true rfl) (fun C hl hC hK hnm => ?_), h0⟩
  subst hl
  refine pz_sub (lv' := [(0, .ref a0), (1, .int p1)]) [0, 1] rfl ?_
  refine pz_aload_n hC dX10_half_0 0 rfl ?_
  refine pz_iconst (v := (0 : Int32)) hC dX10_half_1 (by decide) ?_
  refine pz_putV hC dX10_half_2 fp_X10_48 rfl rfl hf (fun f1 hf => ?_)
  refine pz_aload_n hC dX10_half_5 0 rfl ?_
  refine pz_iload_n hC dX10_half_6 1 rfl ?_
  refine pz_Vi (As := [.int p1]) hC hK dX10_half_7 py_X10_isSpouse pv_X10_isSpouse lk_X10_149 hf (fun _ h => mX10_isSpouse h) rfl rfl (Nat.le_of_ble_eq_true rfl) ⟨by decide, by decide⟩ ⟨Nat.le_of_ble_eq_true rfl, Nat.le_of_ble_eq_true rfl⟩ (fun x2 hf => ?_)
  refine pz_if_eq hC dX10_half_10 hf (fun _ hf => ?_) (fun _ hf => ?_)
  · refine pz_sub [] rfl ?_
    exact tX10_half_35 hC hK hf
  · refine pz_aload_n hC dX10_half_13 0 rfl ?_
    refine pz_iload_n hC dX10_half_14 1 rfl ?_
    refine pz_Vi (As := [.int p1]) hC hK dX10_half_15 py_X10_isParted pv_X10_isParted lk_X10_91 hf (fun _ h => mX10_isParted h) rfl rfl (Nat.le_of_ble_eq_true rfl) ⟨by decide, by decide⟩ ⟨Nat.le_of_ble_eq_true rfl, Nat.le_of_ble_eq_true rfl⟩ (fun x3 hf => ?_)
    refine pz_if_eq hC dX10_half_18 hf (fun _ hf => ?_) (fun _ hf => ?_)
    · refine pz_sub [] rfl ?_
      exact tX10_half_35 hC hK hf
    · refine pz_aload_n hC dX10_half_21 0 rfl ?_
      refine pz_iload_n hC dX10_half_22 1 rfl ?_
      refine pz_aload_n hC dX10_half_23 0 rfl ?_
      refine pz_getR hC dX10_half_24 fa_X10_7 hf (fun v4 hf => ?_)
      refine pz_iconst (v := (1 : Int32)) hC dX10_half_27 (by decide) ?_
      refine pz_iald hC dX10_half_28 hf (fun v5 hf => ?_)
      refine pz_Vi (As := [.int p1, .int v5]) hC hK dX10_half_29 py_X10_hasWorth pv_X10_hasWorth lk_X10_191 hf (fun _ h => mX10_hasWorth h) rfl rfl (Nat.le_of_ble_eq_true rfl) ⟨by decide, by decide⟩ ⟨Nat.le_of_ble_eq_true rfl, Nat.le_of_ble_eq_true rfl⟩ (fun x6 hf => ?_)
      refine pz_if_ne hC dX10_half_32 hf (fun _ hf => ?_) (fun _ hf => ?_)
      · refine pz_aload_n hC dX10_half_37 0 rfl ?_
        refine pz_aload_n hC dX10_half_38 0 rfl ?_
        refine pz_getR hC dX10_half_39 fa_X10_7 hf (fun v7 hf => ?_)
        refine pz_iconst (v := (1 : Int32)) hC dX10_half_42 (by decide) ?_
        refine pz_iald hC dX10_half_43 hf (fun v8 hf => ?_)
        refine pz_Vlw (As := [.int v8]) hC hK dX10_half_44 py_X10_worthOfAll pv_X10_worthOfAll lk_X10_194 hf (fun _ h => mX10_worthOfAll h) rfl rfl (Nat.le_of_ble_eq_true rfl) ⟨by decide, by decide⟩ ⟨Nat.le_of_ble_eq_true rfl, Nat.le_of_ble_eq_true rfl⟩ (fun x9 hf => ?_)
        refine pz_lstore_n hC dX10_half_47 (by decide) rfl ?_
        refine pz_aload_n hC dX10_half_48 1 rfl ?_
        refine pz_iload_n hC dX10_half_49 2 rfl ?_
        refine pz_iconst (v := (3 : Int32)) hC dX10_half_50 (by decide) ?_
        refine pz_Vi (As := [.int p1, .int (3 : Int32)]) hC hK dX10_half_51 py_X10_its pv_X10_its lk_X10_56 hf (fun _ h => mX10_its h) rfl rfl (Nat.le_of_ble_eq_true rfl) ⟨by decide, by decide⟩ ⟨Nat.le_of_ble_eq_true rfl, Nat.le_of_ble_eq_true rfl⟩ (fun x10 hf => ?_)
        refine pz_istore hC dX10_half_54 (by decide) rfl ?_
        refine pz_iconst (v := ((-1) : Int32)) hC dX10_half_56 (by decide) ?_
        refine pz_istore hC dX10_half_57 (by decide) rfl ?_
        refine pz_iconst (v := (0 : Int32)) hC dX10_half_59 (by decide) ?_
        refine pz_istore hC dX10_half_60 (by decide) rfl ?_
        refine pz_sub [4, 5, 3, 2, 1, 0] rfl ?_
        exact tX10_half_62 hC hK _ _ _ _ _ _ _ _ hf
      · refine pz_sub [] rfl ?_
        exact tX10_half_35 hC hK hf
def fX10_keeps_51b (k51 : pz_H → Nat → Nat → Int32 → Option pz_H) (f : pz_H) (l0 : Nat) (l1 : Nat) (l2 : Int32) : Option pz_H :=
  if (87 : Int32) ≤ l2 then (pz_gI f l0 9 4).bind fun v1 =>
  (pz_sV f l0 9 4 (.int (v1 + (1 : Int32)))).bind fun f2 =>
  some f2 else
  (pz_gR f l0 9 2).bind fun v3 =>
  (pz_gI f l0 9 4).bind fun v4 =>
  (pz_aI f l1 0 l2).bind fun v5 =>
  (pz_tI f v3 0 ((((87 : Int32) * v4) + l2)) v5).bind fun f6 =>
  k51 f6 l0 l1 ((l2 + 1))
theorem tX10_keeps_51b {G : pz_G} {C : pz_C} {f : pz_H} {k51 : pz_H → Nat → Nat → Int32 → Option pz_H} {l0 : Nat} {l1 : Nat} {l2 : Int32} {r : pz_H} (hC : pz_OK G C cX10_keeps 3 RX10) (hK : pz_K C none 0 0 0 0) (hk51 : ∀ (g : pz_H) (a0 : Nat) (a1 : Nat) (a2 : Int32), k51 g a0 a1 a2 = some r → pz_W G C 3 51 [(0, .ref a0), (1, .ref a1), (2, .int a2)] [] g 0 0 (pz_Q G C none r 0 0)) (hf : fX10_keeps_51b k51 f l0 l1 l2 = some r) : pz_W G C 3 51 [(0, .ref l0), (1, .ref l1), (2, .int l2)] [] f 0 0 (pz_Q G C none r 0 0) := by
  unfold fX10_keeps_51b at hf
  refine pz_iload_n hC dX10_keeps_51 2 rfl ?_
  refine pz_bipush (v := (87 : Int32)) hC dX10_keeps_52 (by decide) ?_
  refine pz_icmp_ge hC dX10_keeps_54 hf (fun _ hf => ?_) (fun _ hf => ?_)
  · refine pz_aload_n hC dX10_keeps_80 0 rfl ?_
    refine pz_dup hC dX10_keeps_81 rfl ?_
    refine pz_getI hC dX10_keeps_82 fa_X10_172 hf (fun v1 hf => ?_)
    refine pz_iconst (v := (1 : Int32)) hC dX10_keeps_85 (by decide) ?_
    refine pz_iadd hC dX10_keeps_86 ?_
    refine pz_putV hC dX10_keeps_87 fp_X10_172 rfl rfl hf (fun f2 hf => ?_)
    exact pz_vret hC hK dX10_keeps_90 hf
  · refine pz_aload_n hC dX10_keeps_57 0 rfl ?_
    refine pz_getR hC dX10_keeps_58 fa_X10_13 hf (fun v3 hf => ?_)
    refine pz_bipush (v := (87 : Int32)) hC dX10_keeps_61 (by decide) ?_
    refine pz_aload_n hC dX10_keeps_63 0 rfl ?_
    refine pz_getI hC dX10_keeps_64 fa_X10_172 hf (fun v4 hf => ?_)
    refine pz_imul hC dX10_keeps_67 ?_
    refine pz_iload_n hC dX10_keeps_68 2 rfl ?_
    refine pz_iadd hC dX10_keeps_69 ?_
    refine pz_aload_n hC dX10_keeps_70 1 rfl ?_
    refine pz_iload_n hC dX10_keeps_71 2 rfl ?_
    refine pz_iald hC dX10_keeps_72 hf (fun v5 hf => ?_)
    refine pz_iast hC dX10_keeps_73 hf (fun f6 hf => ?_)
    refine pz_iinc (v := (l2 + 1)) hC dX10_keeps_74 2 rfl rfl (by decide) rfl ?_
    refine pz_goto hC dX10_keeps_77 ?_
    refine pz_sub [1, 2, 0] rfl ?_
    exact hk51 _ _ _ _ hf
def fX10_keeps_51 : Nat → pz_H → Nat → Nat → Int32 → Option pz_H
  | 0, _, _, _, _ => none
  | n + 1, f, l0, l1, l2 => fX10_keeps_51b (fX10_keeps_51 n) f l0 l1 l2
theorem tX10_keeps_51 {G : pz_G} {C : pz_C} {r : pz_H} (hC : pz_OK G C cX10_keeps 3 RX10) (hK : pz_K C none 0 0 0 0) : ∀ (N : Nat) (f : pz_H) (l0 : Nat) (l1 : Nat) (l2 : Int32), fX10_keeps_51 N f l0 l1 l2 = some r → pz_W G C 3 51 [(0, .ref l0), (1, .ref l1), (2, .int l2)] [] f 0 0 (pz_Q G C none r 0 0) := by
  intro N
  induction N with
  | zero => intro f l0 l1 l2 hf; cases hf
  | succ N ih => intro f l0 l1 l2 hf; exact tX10_keeps_51b hC hK (fun f l0 l1 l2 hf => ih f l0 l1 l2 hf) hf
def fX10_keeps_49 (f : pz_H) (l0 : Nat) (l1 : Nat) : Option pz_H :=
  fX10_keeps_51 pz_F f l0 l1 ((0 : Int32))
theorem tX10_keeps_49 {G : pz_G} {C : pz_C} {f : pz_H} {l0 : Nat} {l1 : Nat} {r : pz_H} (hC : pz_OK G C cX10_keeps 3 RX10) (hK : pz_K C none 0 0 0 0) (hf : fX10_keeps_49 f l0 l1 = some r) : pz_W G C 3 49 [(0, .ref l0), (1, .ref l1)] [] f 0 0 (pz_Q G C none r 0 0) := by
  unfold fX10_keeps_49 at hf
  refine pz_iconst (v := (0 : Int32)) hC dX10_keeps_49 (by decide) ?_
  refine pz_istore_n hC dX10_keeps_50 (by decide) rfl ?_
  refine pz_sub [1, 2, 0] rfl ?_
  exact tX10_keeps_51 hC hK _ _ _ _ _ hf
def fX10_keeps_11b (k11 : pz_H → Nat → Nat → Int32 → Option pz_H) (f : pz_H) (l0 : Nat) (l1 : Nat) (l2 : Int32) : Option pz_H :=
  if (957 : Int32) ≤ l2 then (pz_gI f l0 9 4).bind fun v1 =>
  (pz_sV f l0 9 4 (.int (v1 - (1 : Int32)))).bind fun f2 =>
  fX10_keeps_49 f2 l0 l1 else
  (pz_gR f l0 9 2).bind fun v3 =>
  (pz_gR f l0 9 2).bind fun v4 =>
  (pz_aI f v4 0 ((l2 + (87 : Int32)))).bind fun v5 =>
  (pz_tI f v3 0 l2 v5).bind fun f6 =>
  k11 f6 l0 l1 ((l2 + 1))
theorem tX10_keeps_11b {G : pz_G} {C : pz_C} {f : pz_H} {k11 : pz_H → Nat → Nat → Int32 → Option pz_H} {l0 : Nat} {l1 : Nat} {l2 : Int32} {r : pz_H} (hC : pz_OK G C cX10_keeps 3 RX10) (hK : pz_K C none 0 0 0 0) (hk11 : ∀ (g : pz_H) (a0 : Nat) (a1 : Nat) (a2 : Int32), k11 g a0 a1 a2 = some r → pz_W G C 3 11 [(0, .ref a0), (1, .ref a1), (2, .int a2)] [] g 0 0 (pz_Q G C none r 0 0)) (hf : fX10_keeps_11b k11 f l0 l1 l2 = some r) : pz_W G C 3 11 [(0, .ref l0), (1, .ref l1), (2, .int l2)] [] f 0 0 (pz_Q G C none r 0 0) := by
  unfold fX10_keeps_11b at hf
  refine pz_iload_n hC dX10_keeps_11 2 rfl ?_
  refine pz_sipush (v := (957 : Int32)) hC dX10_keeps_12 (by decide) ?_
  refine pz_icmp_ge hC dX10_keeps_15 hf (fun _ hf => ?_) (fun _ hf => ?_)
  · refine pz_aload_n hC dX10_keeps_39 0 rfl ?_
    refine pz_dup hC dX10_keeps_40 rfl ?_
    refine pz_getI hC dX10_keeps_41 fa_X10_172 hf (fun v1 hf => ?_)
    refine pz_iconst (v := (1 : Int32)) hC dX10_keeps_44 (by decide) ?_
    refine pz_isub hC dX10_keeps_45 ?_
    refine pz_putV hC dX10_keeps_46 fp_X10_172 rfl rfl hf (fun f2 hf => ?_)
    refine pz_sub [0, 1] rfl ?_
    exact tX10_keeps_49 hC hK hf
  · refine pz_aload_n hC dX10_keeps_18 0 rfl ?_
    refine pz_getR hC dX10_keeps_19 fa_X10_13 hf (fun v3 hf => ?_)
    refine pz_iload_n hC dX10_keeps_22 2 rfl ?_
    refine pz_aload_n hC dX10_keeps_23 0 rfl ?_
    refine pz_getR hC dX10_keeps_24 fa_X10_13 hf (fun v4 hf => ?_)
    refine pz_iload_n hC dX10_keeps_27 2 rfl ?_
    refine pz_bipush (v := (87 : Int32)) hC dX10_keeps_28 (by decide) ?_
    refine pz_iadd hC dX10_keeps_30 ?_
    refine pz_iald hC dX10_keeps_31 hf (fun v5 hf => ?_)
    refine pz_iast hC dX10_keeps_32 hf (fun f6 hf => ?_)
    refine pz_iinc (v := (l2 + 1)) hC dX10_keeps_33 2 rfl rfl (by decide) rfl ?_
    refine pz_goto hC dX10_keeps_36 ?_
    refine pz_sub [1, 2, 0] rfl ?_
    exact hk11 _ _ _ _ hf
def fX10_keeps_11 : Nat → pz_H → Nat → Nat → Int32 → Option pz_H
  | 0, _, _, _, _ => none
  | n + 1, f, l0, l1, l2 => fX10_keeps_11b (fX10_keeps_11 n) f l0 l1 l2
theorem tX10_keeps_11 {G : pz_G} {C : pz_C} {r : pz_H} (hC : pz_OK G C cX10_keeps 3 RX10) (hK : pz_K C none 0 0 0 0) : ∀ (N : Nat) (f : pz_H) (l0 : Nat) (l1 : Nat) (l2 : Int32), fX10_keeps_11 N f l0 l1 l2 = some r → pz_W G C 3 11 [(0, .ref l0), (1, .ref l1), (2, .int l2)] [] f 0 0 (pz_Q G C none r 0 0) := by
  intro N
  induction N with
  | zero => intro f l0 l1 l2 hf; cases hf
  | succ N ih => intro f l0 l1 l2 hf; exact tX10_keeps_11b hC hK (fun f l0 l1 l2 hf => ih f l0 l1 l2 hf) hf
def fnX10_keeps (f : pz_H) (a0 : Nat) (p1 : Nat) : Option pz_H :=
  (pz_is f a0 9).bind fun _ =>
  (pz_gI f a0 9 4).bind fun v1 =>
  if v1 = (12 : Int32) then fX10_keeps_11 pz_F f a0 p1 ((0 : Int32)) else
  fX10_keeps_49 f a0 p1
theorem mX10_keeps {l : Launch} {G : pz_G} {f : pz_H} {a0 : Nat} {p1 : Nat} {r : pz_H} (hf : fnX10_keeps f a0 p1 = some r) : pz_Met l G yX10_keeps cX10_keeps 3 none 0 0 0 0 [.ref a0, .ref p1] f none r ∧ pz_is f a0 9 = some () := by
  unfold fnX10_keeps at hf
  obtain ⟨_, h0, hf⟩ := pz_bd hf
  refine ⟨pz_enter (by decide +kernel) (Nat.le_of_ble_eq_true rfl) (fun C hl hC hK hnm => ?_), h0⟩
  subst hl
  refine pz_sub (lv' := [(0, .ref a0), (1, .ref p1)]) [0, 1] rfl ?_
  refine pz_aload_n hC dX10_keeps_0 0 rfl ?_
  refine pz_getI hC dX10_keeps_1 fa_X10_172 hf (fun v1 hf => ?_)
  refine pz_bipush (v := (12 : Int32)) hC dX10_keeps_4 (by decide) ?_
  refine pz_icmp_ne hC dX10_keeps_6 hf (fun _ hf => ?_) (fun _ hf => ?_)
  · exact tX10_keeps_49 hC hK hf
  · refine pz_iconst (v := (0 : Int32)) hC dX10_keeps_9 (by decide) ?_
    refine pz_istore_n hC dX10_keeps_10 (by decide) rfl ?_
    refine pz_sub [1, 2, 0] rfl ?_
    exact tX10_keeps_11 hC hK _ _ _ _ _ hf
def fX10_lastService_26 (f : pz_H) (s0 : Int32) : Option Int32 :=
  some s0
theorem tX10_lastService_26 {G : pz_G} {C : pz_C} {f : pz_H} {s0 : Int32} {r : Int32} (hC : pz_OK G C cX10_lastService 1 RX10) (hK : pz_K C (some .int) 1 22 0 0) (hf : fX10_lastService_26 f s0 = some r) : pz_W G C 1 26 [] [.int s0] f 0 0 (pz_Q G C (some (.int r)) f 0 0) := by
  unfold fX10_lastService_26 at hf
  exact pz_iret hC hK dX10_lastService_26 hf
def fnX10_lastService (f : pz_H) (a0 : Nat) : Option Int32 :=
  (pz_is f a0 9).bind fun _ =>
  (pz_gR f a0 9 1).bind fun v1 =>
  (pz_aI f v1 0 ((3 : Int32))).bind fun v2 =>
  if v2 = 0 then fX10_lastService_26 f ((0 : Int32)) else
  (pz_gR f a0 9 1).bind fun v3 =>
  (pz_aI f v3 0 ((3 : Int32))).bind fun v4 =>
  (fnX10_spanOf f a0 ((v4 - (1 : Int32))) ((1 : Int32))).bind fun x5 =>
  fX10_lastService_26 f x5
theorem mX10_lastService {l : Launch} {G : pz_G} {f : pz_H} {a0 : Nat} {r : Int32} (hf : fnX10_lastService f a0 = some r) : pz_Met l G yX10_lastService cX10_lastService 1 (some .int) 1 22 0 0 [.ref a0] f (some (.int r)) f ∧ pz_is f a0 9 = some () := by
  unfold fnX10_lastService at hf
  obtain ⟨_, h0, hf⟩ := pz_bd hf
  refine ⟨pz_enter (by decide +kernel) (Nat.le_of_ble_eq_true rfl) (fun C hl hC hK hnm => ?_), h0⟩
  subst hl
  refine pz_sub (lv' := [(0, .ref a0)]) [0] rfl ?_
  refine pz_aload_n hC dX10_lastService_0 0 rfl ?_
  refine pz_getR hC dX10_lastService_1 fa_X10_7 hf (fun v1 hf => ?_)
  refine pz_iconst (v := (3 : Int32)) hC dX10_lastService_4 (by decide) ?_
  refine pz_iald hC dX10_lastService_5 hf (fun v2 hf => ?_)
  refine pz_if_ne hC dX10_lastService_6 hf (fun _ hf => ?_) (fun _ hf => ?_)
  · refine pz_aload_n hC dX10_lastService_13 0 rfl ?_
    refine pz_aload_n hC dX10_lastService_14 0 rfl ?_
    refine pz_getR hC dX10_lastService_15 fa_X10_7 hf (fun v3 hf => ?_)
    refine pz_iconst (v := (3 : Int32)) hC dX10_lastService_18 (by decide) ?_
    refine pz_iald hC dX10_lastService_19 hf (fun v4 hf => ?_)
    refine pz_iconst (v := (1 : Int32)) hC dX10_lastService_20 (by decide) ?_
    refine pz_isub hC dX10_lastService_21 ?_
    refine pz_iconst (v := (1 : Int32)) hC dX10_lastService_22 (by decide) ?_
    refine pz_Vi (As := [.int (v4 - (1 : Int32)), .int (1 : Int32)]) hC hK dX10_lastService_23 py_X10_spanOf pv_X10_spanOf lk_X10_60 hf (fun _ h => mX10_spanOf h) rfl rfl (Nat.le_of_ble_eq_true rfl) ⟨by decide, by decide⟩ ⟨Nat.le_of_ble_eq_true rfl, Nat.le_of_ble_eq_true rfl⟩ (fun x5 hf => ?_)
    refine pz_sub [] rfl ?_
    exact tX10_lastService_26 hC hK hf
  · refine pz_iconst (v := (0 : Int32)) hC dX10_lastService_9 (by decide) ?_
    refine pz_goto hC dX10_lastService_10 ?_
    refine pz_sub [] rfl ?_
    exact tX10_lastService_26 hC hK hf
def fX10_canRetire_30 (f : pz_H) (s0 : Int32) : Option Int32 :=
  pz_b s0
theorem tX10_canRetire_30 {G : pz_G} {C : pz_C} {f : pz_H} {s0 : Int32} {r : Int32} (hC : pz_OK G C cX10_canRetire 2 RX10) (hK : pz_K C (some .boolean) 2 42 0 0) (hf : fX10_canRetire_30 f s0 = some r) : pz_W G C 2 30 [] [.int s0] f 0 0 (pz_Q G C (some (.int r)) f 0 0) := by
  unfold fX10_canRetire_30 at hf
  exact pz_zret hC hK dX10_canRetire_30 hf
def fX10_canRetire_29 (f : pz_H) : Option Int32 :=
  fX10_canRetire_30 f ((0 : Int32))
theorem tX10_canRetire_29 {G : pz_G} {C : pz_C} {f : pz_H} {r : Int32} (hC : pz_OK G C cX10_canRetire 2 RX10) (hK : pz_K C (some .boolean) 2 42 0 0) (hf : fX10_canRetire_29 f = some r) : pz_W G C 2 29 [] [] f 0 0 (pz_Q G C (some (.int r)) f 0 0) := by
  unfold fX10_canRetire_29 at hf
  refine pz_iconst (v := (0 : Int32)) hC dX10_canRetire_29 (by decide) ?_
  exact tX10_canRetire_30 hC hK hf
def fnX10_canRetire (f : pz_H) (a0 : Nat) (p1 : Int32) : Option Int32 :=
  (pz_is f a0 9).bind fun _ =>
  (fnX10_isMonth p1).bind fun x1 =>
  if x1 = 0 then fX10_canRetire_29 f else
  (pz_gR f a0 9 1).bind fun v2 =>
  (pz_aI f v2 0 ((0 : Int32))).bind fun v3 =>
  if p1 < v3 then fX10_canRetire_29 f else
  (fnX10_lastService f a0).bind fun x4 =>
  if p1 < x4 then fX10_canRetire_29 f else
  fX10_canRetire_30 f ((1 : Int32))
theorem mX10_canRetire {l : Launch} {G : pz_G} {f : pz_H} {a0 : Nat} {p1 : Int32} {r : Int32} (hf : fnX10_canRetire f a0 p1 = some r) : pz_Met l G yX10_canRetire cX10_canRetire 2 (some .boolean) 2 42 0 0 [.ref a0, .int p1] f (some (.int r)) f ∧ pz_is f a0 9 = some () := by
  unfold fnX10_canRetire at hf
  obtain ⟨_, h0, hf⟩ := pz_bd hf
  refine ⟨pz_enter (by decide +kernel) (Nat.le_of_ble_eq_true rfl) (fun C hl hC hK hnm => ?_), h0⟩
  subst hl
  refine pz_sub (lv' := [(0, .ref a0), (1, .int p1)]) [0, 1] rfl ?_
  refine pz_iload_n hC dX10_canRetire_0 1 rfl ?_
  refine pz_Si (As := [.int p1]) hC hK dX10_canRetire_1 py_X10_isMonth ps_X10_isMonth lk_X10_155 hf (fun _ h => mX10_isMonth h) rfl rfl (Nat.le_of_ble_eq_true rfl) ⟨by decide, by decide⟩ ⟨by decide, by decide⟩ (fun x1 hf => ?_)
  refine pz_if_eq hC dX10_canRetire_4 hf (fun _ hf => ?_) (fun _ hf => ?_)
  · refine pz_sub [] rfl ?_
    exact tX10_canRetire_29 hC hK hf
  · refine pz_iload_n hC dX10_canRetire_7 1 rfl ?_
    refine pz_aload_n hC dX10_canRetire_8 0 rfl ?_
    refine pz_getR hC dX10_canRetire_9 fa_X10_7 hf (fun v2 hf => ?_)
    refine pz_iconst (v := (0 : Int32)) hC dX10_canRetire_12 (by decide) ?_
    refine pz_iald hC dX10_canRetire_13 hf (fun v3 hf => ?_)
    refine pz_icmp_lt hC dX10_canRetire_14 hf (fun _ hf => ?_) (fun _ hf => ?_)
    · refine pz_sub [] rfl ?_
      exact tX10_canRetire_29 hC hK hf
    · refine pz_iload_n hC dX10_canRetire_17 1 rfl ?_
      refine pz_aload_n hC dX10_canRetire_18 0 rfl ?_
      refine pz_Vi (As := []) hC hK dX10_canRetire_19 py_X10_lastService pv_X10_lastService lk_X10_202 hf (fun _ h => mX10_lastService h) rfl rfl (Nat.le_of_ble_eq_true rfl) ⟨by decide, by decide⟩ ⟨Nat.le_of_ble_eq_true rfl, Nat.le_of_ble_eq_true rfl⟩ (fun x4 hf => ?_)
      refine pz_icmp_lt hC dX10_canRetire_22 hf (fun _ hf => ?_) (fun _ hf => ?_)
      · refine pz_sub [] rfl ?_
        exact tX10_canRetire_29 hC hK hf
      · refine pz_iconst (v := (1 : Int32)) hC dX10_canRetire_25 (by decide) ?_
        refine pz_goto hC dX10_canRetire_26 ?_
        refine pz_sub [] rfl ?_
        exact tX10_canRetire_30 hC hK hf
def fX10_placeOf_37 (f : pz_H) (s0 : Int32) : Option Int32 :=
  some s0
theorem tX10_placeOf_37 {G : pz_G} {C : pz_C} {f : pz_H} {s0 : Int32} {r : Int32} (hC : pz_OK G C cX10_placeOf 5 RX10) (hK : pz_K C (some .int) 3 63 0 0) (hf : fX10_placeOf_37 f s0 = some r) : pz_W G C 5 37 [] [.int s0] f 0 0 (pz_Q G C (some (.int r)) f 0 0) := by
  unfold fX10_placeOf_37 at hf
  exact pz_iret hC hK dX10_placeOf_37 hf
def fX10_placeOf_60 (f : pz_H) (s0 : Int32) : Option Int32 :=
  some s0
theorem tX10_placeOf_60 {G : pz_G} {C : pz_C} {f : pz_H} {s0 : Int32} {r : Int32} (hC : pz_OK G C cX10_placeOf 5 RX10) (hK : pz_K C (some .int) 3 63 0 0) (hf : fX10_placeOf_60 f s0 = some r) : pz_W G C 5 60 [] [.int s0] f 0 0 (pz_Q G C (some (.int r)) f 0 0) := by
  unfold fX10_placeOf_60 at hf
  exact pz_iret hC hK dX10_placeOf_60 hf
def fX10_placeOf_55 (f : pz_H) : Option Int32 :=
  fX10_placeOf_60 f ((1 : Int32))
theorem tX10_placeOf_55 {G : pz_G} {C : pz_C} {f : pz_H} {r : Int32} (hC : pz_OK G C cX10_placeOf 5 RX10) (hK : pz_K C (some .int) 3 63 0 0) (hf : fX10_placeOf_55 f = some r) : pz_W G C 5 55 [] [] f 0 0 (pz_Q G C (some (.int r)) f 0 0) := by
  unfold fX10_placeOf_55 at hf
  refine pz_iconst (v := (1 : Int32)) hC dX10_placeOf_55 (by decide) ?_
  refine pz_goto hC dX10_placeOf_56 ?_
  exact tX10_placeOf_60 hC hK hf
def fX10_placeOf_94 (f : pz_H) (s0 : Int32) : Option Int32 :=
  some s0
theorem tX10_placeOf_94 {G : pz_G} {C : pz_C} {f : pz_H} {s0 : Int32} {r : Int32} (hC : pz_OK G C cX10_placeOf 5 RX10) (hK : pz_K C (some .int) 3 63 0 0) (hf : fX10_placeOf_94 f s0 = some r) : pz_W G C 5 94 [] [.int s0] f 0 0 (pz_Q G C (some (.int r)) f 0 0) := by
  unfold fX10_placeOf_94 at hf
  exact pz_iret hC hK dX10_placeOf_94 hf
def fX10_placeOf_89 (f : pz_H) : Option Int32 :=
  fX10_placeOf_94 f ((2 : Int32))
theorem tX10_placeOf_89 {G : pz_G} {C : pz_C} {f : pz_H} {r : Int32} (hC : pz_OK G C cX10_placeOf 5 RX10) (hK : pz_K C (some .int) 3 63 0 0) (hf : fX10_placeOf_89 f = some r) : pz_W G C 5 89 [] [] f 0 0 (pz_Q G C (some (.int r)) f 0 0) := by
  unfold fX10_placeOf_89 at hf
  refine pz_iconst (v := (2 : Int32)) hC dX10_placeOf_89 (by decide) ?_
  refine pz_goto hC dX10_placeOf_90 ?_
  exact tX10_placeOf_94 hC hK hf
def fX10_placeOf_93 (f : pz_H) : Option Int32 :=
  fX10_placeOf_94 f (((-1) : Int32))
theorem tX10_placeOf_93 {G : pz_G} {C : pz_C} {f : pz_H} {r : Int32} (hC : pz_OK G C cX10_placeOf 5 RX10) (hK : pz_K C (some .int) 3 63 0 0) (hf : fX10_placeOf_93 f = some r) : pz_W G C 5 93 [] [] f 0 0 (pz_Q G C (some (.int r)) f 0 0) := by
  unfold fX10_placeOf_93 at hf
  refine pz_iconst (v := ((-1) : Int32)) hC dX10_placeOf_93 (by decide) ?_
  exact tX10_placeOf_94 hC hK hf
def fX10_placeOf_112 (f : pz_H) : Option Int32 :=
  some (((-1) : Int32))
theorem tX10_placeOf_112 {G : pz_G} {C : pz_C} {f : pz_H} {r : Int32} (hC : pz_OK G C cX10_placeOf 5 RX10) (hK : pz_K C (some .int) 3 63 0 0) (hf : fX10_placeOf_112 f = some r) : pz_W G C 5 112 [] [] f 0 0 (pz_Q G C (some (.int r)) f 0 0) := by
  unfold fX10_placeOf_112 at hf
  refine pz_iconst (v := ((-1) : Int32)) hC dX10_placeOf_112 (by decide) ?_
  exact pz_iret hC hK dX10_placeOf_113 hf
def fX10_placeOf_216 (f : pz_H) (s0 : Int32) : Option Int32 :=
  some s0
theorem tX10_placeOf_216 {G : pz_G} {C : pz_C} {f : pz_H} {s0 : Int32} {r : Int32} (hC : pz_OK G C cX10_placeOf 5 RX10) (hK : pz_K C (some .int) 3 63 0 0) (hf : fX10_placeOf_216 f s0 = some r) : pz_W G C 5 216 [] [.int s0] f 0 0 (pz_Q G C (some (.int r)) f 0 0) := by
  unfold fX10_placeOf_216 at hf
  exact pz_iret hC hK dX10_placeOf_216 hf
def fX10_placeOf_194 (f : pz_H) (l1 : Int32) (l2 : Int32) (s0 : Int32) : Option Int32 :=
  if s0 = 0 then fX10_placeOf_216 f (((-1) : Int32)) else
  fX10_placeOf_216 f (((((35 : Int32) + ((8 : Int32) * l2)) + (2 : Int32)) + l1))
theorem tX10_placeOf_194 {G : pz_G} {C : pz_C} {f : pz_H} {l1 : Int32} {l2 : Int32} {s0 : Int32} {r : Int32} (hC : pz_OK G C cX10_placeOf 5 RX10) (hK : pz_K C (some .int) 3 63 0 0) (hf : fX10_placeOf_194 f l1 l2 s0 = some r) : pz_W G C 5 194 [(1, .int l1), (2, .int l2)] [.int s0] f 0 0 (pz_Q G C (some (.int r)) f 0 0) := by
  unfold fX10_placeOf_194 at hf
  refine pz_istore hC dX10_placeOf_194 (by decide) rfl ?_
  refine pz_iload hC dX10_placeOf_196 0 rfl ?_
  refine pz_if_eq hC dX10_placeOf_198 hf (fun _ hf => ?_) (fun _ hf => ?_)
  · refine pz_iconst (v := ((-1) : Int32)) hC dX10_placeOf_215 (by decide) ?_
    refine pz_sub [] rfl ?_
    exact tX10_placeOf_216 hC hK hf
  · refine pz_bipush (v := (35 : Int32)) hC dX10_placeOf_201 (by decide) ?_
    refine pz_bipush (v := (8 : Int32)) hC dX10_placeOf_203 (by decide) ?_
    refine pz_iload_n hC dX10_placeOf_205 2 rfl ?_
    refine pz_imul hC dX10_placeOf_206 ?_
    refine pz_iadd hC dX10_placeOf_207 ?_
    refine pz_iconst (v := (2 : Int32)) hC dX10_placeOf_208 (by decide) ?_
    refine pz_iadd hC dX10_placeOf_209 ?_
    refine pz_iload_n hC dX10_placeOf_210 1 rfl ?_
    refine pz_iadd hC dX10_placeOf_211 ?_
    refine pz_goto hC dX10_placeOf_212 ?_
    refine pz_sub [] rfl ?_
    exact tX10_placeOf_216 hC hK hf
def fX10_placeOf_153 (f : pz_H) (l1 : Int32) (l2 : Int32) : Option Int32 :=
  fX10_placeOf_194 f l1 l2 ((1 : Int32))
theorem tX10_placeOf_153 {G : pz_G} {C : pz_C} {f : pz_H} {l1 : Int32} {l2 : Int32} {r : Int32} (hC : pz_OK G C cX10_placeOf 5 RX10) (hK : pz_K C (some .int) 3 63 0 0) (hf : fX10_placeOf_153 f l1 l2 = some r) : pz_W G C 5 153 [(1, .int l1), (2, .int l2)] [] f 0 0 (pz_Q G C (some (.int r)) f 0 0) := by
  unfold fX10_placeOf_153 at hf
  refine pz_iconst (v := (1 : Int32)) hC dX10_placeOf_153 (by decide) ?_
  refine pz_goto hC dX10_placeOf_154 ?_
  exact tX10_placeOf_194 hC hK hf
def fX10_placeOf_157 (f : pz_H) (l1 : Int32) (l2 : Int32) : Option Int32 :=
  fX10_placeOf_194 f l1 l2 ((0 : Int32))
theorem tX10_placeOf_157 {G : pz_G} {C : pz_C} {f : pz_H} {l1 : Int32} {l2 : Int32} {r : Int32} (hC : pz_OK G C cX10_placeOf 5 RX10) (hK : pz_K C (some .int) 3 63 0 0) (hf : fX10_placeOf_157 f l1 l2 = some r) : pz_W G C 5 157 [(1, .int l1), (2, .int l2)] [] f 0 0 (pz_Q G C (some (.int r)) f 0 0) := by
  unfold fX10_placeOf_157 at hf
  refine pz_iconst (v := (0 : Int32)) hC dX10_placeOf_157 (by decide) ?_
  refine pz_goto hC dX10_placeOf_158 ?_
  exact tX10_placeOf_194 hC hK hf
def fX10_placeOf_193 (f : pz_H) (l1 : Int32) (l2 : Int32) : Option Int32 :=
  fX10_placeOf_194 f l1 l2 ((0 : Int32))
theorem tX10_placeOf_193 {G : pz_G} {C : pz_C} {f : pz_H} {l1 : Int32} {l2 : Int32} {r : Int32} (hC : pz_OK G C cX10_placeOf 5 RX10) (hK : pz_K C (some .int) 3 63 0 0) (hf : fX10_placeOf_193 f l1 l2 = some r) : pz_W G C 5 193 [(1, .int l1), (2, .int l2)] [] f 0 0 (pz_Q G C (some (.int r)) f 0 0) := by
  unfold fX10_placeOf_193 at hf
  refine pz_iconst (v := (0 : Int32)) hC dX10_placeOf_193 (by decide) ?_
  exact tX10_placeOf_194 hC hK hf
def fX10_placeOf_183 (f : pz_H) (l1 : Int32) (l2 : Int32) (s0 : Int32) (s1 : Int32) (s2 : Int32) : Option Int32 :=
  (fnX10_in s2 s1 s0).bind fun x1 =>
  if x1 = 0 then fX10_placeOf_193 f l1 l2 else
  fX10_placeOf_194 f l1 l2 ((1 : Int32))
theorem tX10_placeOf_183 {G : pz_G} {C : pz_C} {f : pz_H} {l1 : Int32} {l2 : Int32} {s0 : Int32} {s1 : Int32} {s2 : Int32} {r : Int32} (hC : pz_OK G C cX10_placeOf 5 RX10) (hK : pz_K C (some .int) 3 63 0 0) (hf : fX10_placeOf_183 f l1 l2 s0 s1 s2 = some r) : pz_W G C 5 183 [(1, .int l1), (2, .int l2)] [.int s0, .int s1, .int s2] f 0 0 (pz_Q G C (some (.int r)) f 0 0) := by
  unfold fX10_placeOf_183 at hf
  refine pz_Si (As := [.int s2, .int s1, .int s0]) hC hK dX10_placeOf_183 py_X10_in ps_X10_in lk_X10_52 hf (fun _ h => mX10_in h) rfl rfl (Nat.le_of_ble_eq_true rfl) ⟨by decide, by decide⟩ ⟨by decide, by decide⟩ (fun x1 hf => ?_)
  refine pz_if_eq hC dX10_placeOf_186 hf (fun _ hf => ?_) (fun _ hf => ?_)
  · exact tX10_placeOf_193 hC hK hf
  · refine pz_iconst (v := (1 : Int32)) hC dX10_placeOf_189 (by decide) ?_
    refine pz_goto hC dX10_placeOf_190 ?_
    exact tX10_placeOf_194 hC hK hf
def fnX10_placeOf (f : pz_H) (a0 : Nat) (p1 : Int32) (p2 : Int32) (p3 : Int32) : Option Int32 :=
  (pz_is f a0 9).bind fun _ =>
  (fnX10_in p1 ((10 : Int32)) ((14 : Int32))).bind fun x1 =>
  if x1 = 0 then if p1 = 0 then if p3 = ((-1) : Int32) then fX10_placeOf_55 f else
  (fnX10_canRetire f a0 p3).bind fun x11 =>
  if x11 = 0 then fX10_placeOf_60 f (((-1) : Int32)) else
  fX10_placeOf_55 f else
  if p1 = (6 : Int32) then if p3 = ((-1) : Int32) then fX10_placeOf_89 f else
  (fnX10_isMonth p3).bind fun x8 =>
  if x8 = 0 then fX10_placeOf_93 f else
  (pz_gR f a0 9 1).bind fun v9 =>
  (pz_aI f v9 0 ((0 : Int32))).bind fun v10 =>
  if p3 ≤ v10 then fX10_placeOf_93 f else
  fX10_placeOf_89 f else
  (fnX10_in p1 ((1 : Int32)) ((5 : Int32))).bind fun x2 =>
  if x2 = 0 then fX10_placeOf_112 f else
  (fnX10_isSpouse f a0 p2).bind fun x3 =>
  if x3 = 0 then fX10_placeOf_112 f else
  if p1 = (4 : Int32) then (fnX10_isMonth p3).bind fun x7 =>
  fX10_placeOf_194 f p1 p2 x7 else
  if p1 = (5 : Int32) then if p3 = ((-1) : Int32) then fX10_placeOf_153 f p1 p2 else
  (fnX10_isMonth p3).bind fun x5 =>
  if x5 = 0 then fX10_placeOf_157 f p1 p2 else
  (fnX10_its f a0 p2 ((0 : Int32))).bind fun x6 =>
  if p3 ≤ x6 then fX10_placeOf_157 f p1 p2 else
  fX10_placeOf_153 f p1 p2 else
  (fnX10_isParted f a0 p2).bind fun x4 =>
  if x4 = 0 then fX10_placeOf_193 f p1 p2 else
  if p1 = (2 : Int32) then fX10_placeOf_183 f p1 p2 ((1 : Int32)) ((0 : Int32)) p3 else
  fX10_placeOf_183 f p1 p2 ((1000 : Int32)) ((0 : Int32)) p3 else
  (fnX10_mostOf ((p1 - (10 : Int32)))).bind fun x12 =>
  (fnX10_in p3 ((0 : Int32)) x12).bind fun x13 =>
  if x13 = 0 then fX10_placeOf_37 f (((-1) : Int32)) else
  fX10_placeOf_37 f ((((6 : Int32) + p1) - (10 : Int32)))
theorem mX10_placeOf {l : Launch} {G : pz_G} {f : pz_H} {a0 : Nat} {p1 : Int32} {p2 : Int32} {p3 : Int32} {r : Int32} (hf : fnX10_placeOf f a0 p1 p2 p3 = some r) : pz_Met l G yX10_placeOf cX10_placeOf 5 (some .int) 3 63 0 0 [.ref a0, .int p1, .int p2, .int p3] f (some (.int r)) f ∧ pz_is f a0 9 = some () := by
  unfold fnX10_placeOf at hf
  obtain ⟨_, h0, hf⟩ := pz_bd hf
  refine ⟨pz_enter (by decide +kernel) (Nat.le_of_ble_eq_true rfl) (fun C hl hC hK hnm => ?_), h0⟩
  subst hl
  refine pz_sub (lv' := [(0, .ref a0), (1, .int p1), (2, .int p2), (3, .int p3)]) [0, 1, 2, 3] rfl ?_
  refine pz_iload_n hC dX10_placeOf_0 1 rfl ?_
  refine pz_bipush (v := (10 : Int32)) hC dX10_placeOf_1 (by decide) ?_
  refine pz_bipush (v := (14 : Int32)) hC dX10_placeOf_3 (by decide) ?_
  refine pz_Si (As := [.int p1, .int (10 : Int32), .int (14 : Int32)]) hC hK dX10_placeOf_5 py_X10_in ps_X10_in lk_X10_52 hf (fun _ h => mX10_in h) rfl rfl (Nat.le_of_ble_eq_true rfl) ⟨by decide, by decide⟩ ⟨by decide, by decide⟩ (fun x1 hf => ?_)
  refine pz_if_eq hC dX10_placeOf_8 hf (fun _ hf => ?_) (fun _ hf => ?_)
  · refine pz_iload_n hC dX10_placeOf_38 1 rfl ?_
    refine pz_if_ne hC dX10_placeOf_39 hf (fun _ hf => ?_) (fun _ hf => ?_)
    · refine pz_iload_n hC dX10_placeOf_61 1 rfl ?_
      refine pz_bipush (v := (6 : Int32)) hC dX10_placeOf_62 (by decide) ?_
      refine pz_icmp_ne hC dX10_placeOf_64 hf (fun _ hf => ?_) (fun _ hf => ?_)
      · refine pz_iload_n hC dX10_placeOf_95 1 rfl ?_
        refine pz_iconst (v := (1 : Int32)) hC dX10_placeOf_96 (by decide) ?_
        refine pz_iconst (v := (5 : Int32)) hC dX10_placeOf_97 (by decide) ?_
        refine pz_Si (As := [.int p1, .int (1 : Int32), .int (5 : Int32)]) hC hK dX10_placeOf_98 py_X10_in ps_X10_in lk_X10_52 hf (fun _ h => mX10_in h) rfl rfl (Nat.le_of_ble_eq_true rfl) ⟨by decide, by decide⟩ ⟨by decide, by decide⟩ (fun x2 hf => ?_)
        refine pz_if_eq hC dX10_placeOf_101 hf (fun _ hf => ?_) (fun _ hf => ?_)
        · refine pz_sub [] rfl ?_
          exact tX10_placeOf_112 hC hK hf
        · refine pz_aload_n hC dX10_placeOf_104 0 rfl ?_
          refine pz_iload_n hC dX10_placeOf_105 2 rfl ?_
          refine pz_Vi (As := [.int p2]) hC hK dX10_placeOf_106 py_X10_isSpouse pv_X10_isSpouse lk_X10_149 hf (fun _ h => mX10_isSpouse h) rfl rfl (Nat.le_of_ble_eq_true rfl) ⟨by decide, by decide⟩ ⟨Nat.le_of_ble_eq_true rfl, Nat.le_of_ble_eq_true rfl⟩ (fun x3 hf => ?_)
          refine pz_if_ne hC dX10_placeOf_109 hf (fun _ hf => ?_) (fun _ hf => ?_)
          · refine pz_iload_n hC dX10_placeOf_114 1 rfl ?_
            refine pz_iconst (v := (4 : Int32)) hC dX10_placeOf_115 (by decide) ?_
            refine pz_icmp_ne hC dX10_placeOf_116 hf (fun _ hf => ?_) (fun _ hf => ?_)
            · refine pz_iload_n hC dX10_placeOf_126 1 rfl ?_
              refine pz_iconst (v := (5 : Int32)) hC dX10_placeOf_127 (by decide) ?_
              refine pz_icmp_ne hC dX10_placeOf_128 hf (fun _ hf => ?_) (fun _ hf => ?_)
              · refine pz_aload_n hC dX10_placeOf_161 0 rfl ?_
                refine pz_iload_n hC dX10_placeOf_162 2 rfl ?_
                refine pz_Vi (As := [.int p2]) hC hK dX10_placeOf_163 py_X10_isParted pv_X10_isParted lk_X10_91 hf (fun _ h => mX10_isParted h) rfl rfl (Nat.le_of_ble_eq_true rfl) ⟨by decide, by decide⟩ ⟨Nat.le_of_ble_eq_true rfl, Nat.le_of_ble_eq_true rfl⟩ (fun x4 hf => ?_)
                refine pz_if_eq hC dX10_placeOf_166 hf (fun _ hf => ?_) (fun _ hf => ?_)
                · refine pz_sub [1, 2] rfl ?_
                  exact tX10_placeOf_193 hC hK hf
                · refine pz_iload_n hC dX10_placeOf_169 3 rfl ?_
                  refine pz_iconst (v := (0 : Int32)) hC dX10_placeOf_170 (by decide) ?_
                  refine pz_iload_n hC dX10_placeOf_171 1 rfl ?_
                  refine pz_iconst (v := (2 : Int32)) hC dX10_placeOf_172 (by decide) ?_
                  refine pz_icmp_ne hC dX10_placeOf_173 hf (fun _ hf => ?_) (fun _ hf => ?_)
                  · refine pz_sipush (v := (1000 : Int32)) hC dX10_placeOf_180 (by decide) ?_
                    refine pz_sub [1, 2] rfl ?_
                    exact tX10_placeOf_183 hC hK hf
                  · refine pz_iconst (v := (1 : Int32)) hC dX10_placeOf_176 (by decide) ?_
                    refine pz_goto hC dX10_placeOf_177 ?_
                    refine pz_sub [1, 2] rfl ?_
                    exact tX10_placeOf_183 hC hK hf
              · refine pz_iload_n hC dX10_placeOf_131 3 rfl ?_
                refine pz_iconst (v := ((-1) : Int32)) hC dX10_placeOf_132 (by decide) ?_
                refine pz_icmp_eq hC dX10_placeOf_133 hf (fun _ hf => ?_) (fun _ hf => ?_)
                · refine pz_sub [1, 2] rfl ?_
                  exact tX10_placeOf_153 hC hK hf
                · refine pz_iload_n hC dX10_placeOf_136 3 rfl ?_
                  refine pz_Si (As := [.int p3]) hC hK dX10_placeOf_137 py_X10_isMonth ps_X10_isMonth lk_X10_155 hf (fun _ h => mX10_isMonth h) rfl rfl (Nat.le_of_ble_eq_true rfl) ⟨by decide, by decide⟩ ⟨by decide, by decide⟩ (fun x5 hf => ?_)
                  refine pz_if_eq hC dX10_placeOf_140 hf (fun _ hf => ?_) (fun _ hf => ?_)
                  · refine pz_sub [1, 2] rfl ?_
                    exact tX10_placeOf_157 hC hK hf
                  · refine pz_iload_n hC dX10_placeOf_143 3 rfl ?_
                    refine pz_aload_n hC dX10_placeOf_144 0 rfl ?_
                    refine pz_iload_n hC dX10_placeOf_145 2 rfl ?_
                    refine pz_iconst (v := (0 : Int32)) hC dX10_placeOf_146 (by decide) ?_
                    refine pz_Vi (As := [.int p2, .int (0 : Int32)]) hC hK dX10_placeOf_147 py_X10_its pv_X10_its lk_X10_56 hf (fun _ h => mX10_its h) rfl rfl (Nat.le_of_ble_eq_true rfl) ⟨by decide, by decide⟩ ⟨Nat.le_of_ble_eq_true rfl, Nat.le_of_ble_eq_true rfl⟩ (fun x6 hf => ?_)
                    refine pz_icmp_le hC dX10_placeOf_150 hf (fun _ hf => ?_) (fun _ hf => ?_)
                    · refine pz_sub [1, 2] rfl ?_
                      exact tX10_placeOf_157 hC hK hf
                    · refine pz_sub [1, 2] rfl ?_
                      exact tX10_placeOf_153 hC hK hf
            · refine pz_iload_n hC dX10_placeOf_119 3 rfl ?_
              refine pz_Si (As := [.int p3]) hC hK dX10_placeOf_120 py_X10_isMonth ps_X10_isMonth lk_X10_155 hf (fun _ h => mX10_isMonth h) rfl rfl (Nat.le_of_ble_eq_true rfl) ⟨by decide, by decide⟩ ⟨by decide, by decide⟩ (fun x7 hf => ?_)
              refine pz_goto hC dX10_placeOf_123 ?_
              refine pz_sub [1, 2] rfl ?_
              exact tX10_placeOf_194 hC hK hf
          · refine pz_sub [] rfl ?_
            exact tX10_placeOf_112 hC hK hf
      · refine pz_iload_n hC dX10_placeOf_67 3 rfl ?_
        refine pz_iconst (v := ((-1) : Int32)) hC dX10_placeOf_68 (by decide) ?_
        refine pz_icmp_eq hC dX10_placeOf_69 hf (fun _ hf => ?_) (fun _ hf => ?_)
        · refine pz_sub [] rfl ?_
          exact tX10_placeOf_89 hC hK hf
        · refine pz_iload_n hC dX10_placeOf_72 3 rfl ?_
          refine pz_Si (As := [.int p3]) hC hK dX10_placeOf_73 py_X10_isMonth ps_X10_isMonth lk_X10_155 hf (fun _ h => mX10_isMonth h) rfl rfl (Nat.le_of_ble_eq_true rfl) ⟨by decide, by decide⟩ ⟨by decide, by decide⟩ (fun x8 hf => ?_)
          refine pz_if_eq hC dX10_placeOf_76 hf (fun _ hf => ?_) (fun _ hf => ?_)
          · refine pz_sub [] rfl ?_
            exact tX10_placeOf_93 hC hK hf
          · refine pz_iload_n hC dX10_placeOf_79 3 rfl ?_
            refine pz_aload_n hC dX10_placeOf_80 0 rfl ?_
            refine pz_getR hC dX10_placeOf_81 fa_X10_7 hf (fun v9 hf => ?_)
            refine pz_iconst (v := (0 : Int32)) hC dX10_placeOf_84 (by decide) ?_
            refine pz_iald hC dX10_placeOf_85 hf (fun v10 hf => ?_)
            refine pz_icmp_le hC dX10_placeOf_86 hf (fun _ hf => ?_) (fun _ hf => ?_)
            · refine pz_sub [] rfl ?_
              exact tX10_placeOf_93 hC hK hf
            · refine pz_sub [] rfl ?_
              exact tX10_placeOf_89 hC hK hf
    · refine pz_iload_n hC dX10_placeOf_42 3 rfl ?_
      refine pz_iconst (v := ((-1) : Int32)) hC dX10_placeOf_43 (by decide) ?_
      refine pz_icmp_eq hC dX10_placeOf_44 hf (fun _ hf => ?_) (fun _ hf => ?_)
      · refine pz_sub [] rfl ?_
        exact tX10_placeOf_55 hC hK hf
      · refine pz_aload_n hC dX10_placeOf_47 0 rfl ?_
        refine pz_iload_n hC dX10_placeOf_48 3 rfl ?_
        refine pz_Vi (As := [.int p3]) hC hK dX10_placeOf_49 py_X10_canRetire pv_X10_canRetire lk_X10_208 hf (fun _ h => mX10_canRetire h) rfl rfl (Nat.le_of_ble_eq_true rfl) ⟨by decide, by decide⟩ ⟨Nat.le_of_ble_eq_true rfl, Nat.le_of_ble_eq_true rfl⟩ (fun x11 hf => ?_)
        refine pz_if_eq hC dX10_placeOf_52 hf (fun _ hf => ?_) (fun _ hf => ?_)
        · refine pz_iconst (v := ((-1) : Int32)) hC dX10_placeOf_59 (by decide) ?_
          refine pz_sub [] rfl ?_
          exact tX10_placeOf_60 hC hK hf
        · refine pz_sub [] rfl ?_
          exact tX10_placeOf_55 hC hK hf
  · refine pz_iload_n hC dX10_placeOf_11 3 rfl ?_
    refine pz_iconst (v := (0 : Int32)) hC dX10_placeOf_12 (by decide) ?_
    refine pz_iload_n hC dX10_placeOf_13 1 rfl ?_
    refine pz_bipush (v := (10 : Int32)) hC dX10_placeOf_14 (by decide) ?_
    refine pz_isub hC dX10_placeOf_16 ?_
    refine pz_Si (As := [.int (p1 - (10 : Int32))]) hC hK dX10_placeOf_17 py_X10_mostOf ps_X10_mostOf lk_X10_205 hf (fun _ h => mX10_mostOf h) rfl rfl (Nat.le_of_ble_eq_true rfl) ⟨by decide, by decide⟩ ⟨by decide, by decide⟩ (fun x12 hf => ?_)
    refine pz_Si (As := [.int p3, .int (0 : Int32), .int x12]) hC hK dX10_placeOf_20 py_X10_in ps_X10_in lk_X10_52 hf (fun _ h => mX10_in h) rfl rfl (Nat.le_of_ble_eq_true rfl) ⟨by decide, by decide⟩ ⟨by decide, by decide⟩ (fun x13 hf => ?_)
    refine pz_if_eq hC dX10_placeOf_23 hf (fun _ hf => ?_) (fun _ hf => ?_)
    · refine pz_iconst (v := ((-1) : Int32)) hC dX10_placeOf_36 (by decide) ?_
      refine pz_sub [] rfl ?_
      exact tX10_placeOf_37 hC hK hf
    · refine pz_bipush (v := (6 : Int32)) hC dX10_placeOf_26 (by decide) ?_
      refine pz_iload_n hC dX10_placeOf_28 1 rfl ?_
      refine pz_iadd hC dX10_placeOf_29 ?_
      refine pz_bipush (v := (10 : Int32)) hC dX10_placeOf_30 (by decide) ?_
      refine pz_isub hC dX10_placeOf_32 ?_
      refine pz_goto hC dX10_placeOf_33 ?_
      refine pz_sub [] rfl ?_
      exact tX10_placeOf_37 hC hK hf
def fX10_set_31 (f : pz_H) : Option (Int32 × pz_H) :=
  (pz_b ((0 : Int32))).bind fun x => some (x, f)
theorem tX10_set_31 {G : pz_G} {C : pz_C} {f : pz_H} {r : (Int32 × pz_H)} (hC : pz_OK G C cX10_set 5 RX10) (hK : pz_K C (some .boolean) 4 87 0 0) (hf : fX10_set_31 f = some r) : pz_W G C 5 31 [] [] f 0 0 (pz_Q G C (some (.int r.1)) r.2 0 0) := by
  unfold fX10_set_31 at hf
  refine pz_iconst (v := (0 : Int32)) hC dX10_set_31 (by decide) ?_
  exact pz_zretw hC hK dX10_set_32 hf
def fnX10_set (f : pz_H) (a0 : Nat) (p1 : Int32) (p2 : Int32) (p3 : Int32) : Option (Int32 × pz_H) :=
  (pz_is f a0 9).bind fun _ =>
  (pz_sV f a0 9 0 (.int (0 : Int32))).bind fun f1 =>
  (fnX10_placeOf f1 a0 p1 p2 p3).bind fun x2 =>
  if x2 = ((-1) : Int32) then fX10_set_31 f1 else
  (pz_gR f1 a0 9 1).bind fun v3 =>
  (pz_aI f1 v3 0 x2).bind fun v4 =>
  if v4 = p3 then fX10_set_31 f1 else
  (pz_gR f1 a0 9 1).bind fun v5 =>
  (fnX10_keeps f1 a0 v5).bind fun x6 =>
  (pz_gR x6 a0 9 1).bind fun v7 =>
  (pz_tI x6 v7 0 x2 p3).bind fun f8 =>
  (pz_sV f8 a0 9 6 (.int (0 : Int32))).bind fun f9 =>
  (pz_b ((1 : Int32))).bind fun x => some (x, f9)
theorem mX10_set {l : Launch} {G : pz_G} {f : pz_H} {a0 : Nat} {p1 : Int32} {p2 : Int32} {p3 : Int32} {r : (Int32 × pz_H)} (hf : fnX10_set f a0 p1 p2 p3 = some r) : pz_Met l G yX10_set cX10_set 5 (some .boolean) 4 87 0 0 [.ref a0, .int p1, .int p2, .int p3] f (some (.int r.1)) r.2 ∧ pz_is f a0 9 = some () := by
  unfold fnX10_set at hf
  obtain ⟨_, h0, hf⟩ := pz_bd hf
  refine ⟨pz_enter (by decide +kernel) (Nat.le_of_ble_eq_true rfl) (fun C hl hC hK hnm => ?_), h0⟩
  subst hl
  refine pz_sub (lv' := [(0, .ref a0), (1, .int p1), (2, .int p2), (3, .int p3)]) [0, 1, 2, 3] rfl ?_
  refine pz_aload_n hC dX10_set_0 0 rfl ?_
  refine pz_iconst (v := (0 : Int32)) hC dX10_set_1 (by decide) ?_
  refine pz_putV hC dX10_set_2 fp_X10_48 rfl rfl hf (fun f1 hf => ?_)
  refine pz_aload_n hC dX10_set_5 0 rfl ?_
  refine pz_iload_n hC dX10_set_6 1 rfl ?_
  refine pz_iload_n hC dX10_set_7 2 rfl ?_
  refine pz_iload_n hC dX10_set_8 3 rfl ?_
  refine pz_Vi (As := [.int p1, .int p2, .int p3]) hC hK dX10_set_9 py_X10_placeOf pv_X10_placeOf lk_X10_211 hf (fun _ h => mX10_placeOf h) rfl rfl (Nat.le_of_ble_eq_true rfl) ⟨by decide, by decide⟩ ⟨Nat.le_of_ble_eq_true rfl, Nat.le_of_ble_eq_true rfl⟩ (fun x2 hf => ?_)
  refine pz_istore hC dX10_set_12 (by decide) rfl ?_
  refine pz_iload hC dX10_set_14 0 rfl ?_
  refine pz_iconst (v := ((-1) : Int32)) hC dX10_set_16 (by decide) ?_
  refine pz_icmp_eq hC dX10_set_17 hf (fun _ hf => ?_) (fun _ hf => ?_)
  · refine pz_sub [] rfl ?_
    exact tX10_set_31 hC hK hf
  · refine pz_aload_n hC dX10_set_20 1 rfl ?_
    refine pz_getR hC dX10_set_21 fa_X10_7 hf (fun v3 hf => ?_)
    refine pz_iload hC dX10_set_24 0 rfl ?_
    refine pz_iald hC dX10_set_26 hf (fun v4 hf => ?_)
    refine pz_iload_n hC dX10_set_27 4 rfl ?_
    refine pz_icmp_ne hC dX10_set_28 hf (fun _ hf => ?_) (fun _ hf => ?_)
    · refine pz_aload_n hC dX10_set_33 1 rfl ?_
      refine pz_aload_n hC dX10_set_34 1 rfl ?_
      refine pz_getR hC dX10_set_35 fa_X10_7 hf (fun v5 hf => ?_)
      refine pz_Vv (As := [.ref v5]) hC hK dX10_set_38 py_X10_keeps pv_X10_keeps lk_X10_215 hf (fun _ h => mX10_keeps h) rfl rfl (Nat.le_of_ble_eq_true rfl) ⟨by decide, by decide⟩ ⟨Nat.le_of_ble_eq_true rfl, Nat.le_of_ble_eq_true rfl⟩ (fun x6 hf => ?_)
      refine pz_aload_n hC dX10_set_41 1 rfl ?_
      refine pz_getR hC dX10_set_42 fa_X10_7 hf (fun v7 hf => ?_)
      refine pz_iload hC dX10_set_45 0 rfl ?_
      refine pz_iload_n hC dX10_set_47 4 rfl ?_
      refine pz_iast hC dX10_set_48 hf (fun f8 hf => ?_)
      refine pz_aload_n hC dX10_set_49 1 rfl ?_
      refine pz_iconst (v := (0 : Int32)) hC dX10_set_50 (by decide) ?_
      refine pz_putV hC dX10_set_51 fp_X10_80 (by decide) (by decide) hf (fun f9 hf => ?_)
      refine pz_iconst (v := (1 : Int32)) hC dX10_set_54 (by decide) ?_
      exact pz_zretw hC hK dX10_set_55 hf
    · refine pz_sub [] rfl ?_
      exact tX10_set_31 hC hK hf
def fX10_undo_26b (k26 : pz_H → Nat → Int32 → Option (Int32 × pz_H)) (f : pz_H) (l0 : Nat) (l1 : Int32) : Option (Int32 × pz_H) :=
  if (87 : Int32) ≤ l1 then (pz_sV f l0 9 6 (.int (0 : Int32))).bind fun f1 =>
  (pz_gI f1 l0 9 4).bind fun v2 =>
  some (v2, f1) else
  (pz_gR f l0 9 1).bind fun v3 =>
  (pz_gR f l0 9 2).bind fun v4 =>
  (pz_gI f l0 9 4).bind fun v5 =>
  (pz_aI f v4 0 ((((87 : Int32) * v5) + l1))).bind fun v6 =>
  (pz_tI f v3 0 l1 v6).bind fun f7 =>
  k26 f7 l0 ((l1 + 1))
theorem tX10_undo_26b {G : pz_G} {C : pz_C} {f : pz_H} {k26 : pz_H → Nat → Int32 → Option (Int32 × pz_H)} {l0 : Nat} {l1 : Int32} {r : (Int32 × pz_H)} (hC : pz_OK G C cX10_undo 2 RX10) (hK : pz_K C (some .int) 0 0 0 0) (hk26 : ∀ (g : pz_H) (a0 : Nat) (a1 : Int32), k26 g a0 a1 = some r → pz_W G C 2 26 [(0, .ref a0), (1, .int a1)] [] g 0 0 (pz_Q G C (some (.int r.1)) r.2 0 0)) (hf : fX10_undo_26b k26 f l0 l1 = some r) : pz_W G C 2 26 [(0, .ref l0), (1, .int l1)] [] f 0 0 (pz_Q G C (some (.int r.1)) r.2 0 0) := by
  unfold fX10_undo_26b at hf
  refine pz_iload_n hC dX10_undo_26 1 rfl ?_
  refine pz_bipush (v := (87 : Int32)) hC dX10_undo_27 (by decide) ?_
  refine pz_icmp_ge hC dX10_undo_29 hf (fun _ hf => ?_) (fun _ hf => ?_)
  · refine pz_aload_n hC dX10_undo_58 0 rfl ?_
    refine pz_iconst (v := (0 : Int32)) hC dX10_undo_59 (by decide) ?_
    refine pz_putV hC dX10_undo_60 fp_X10_80 (by decide) (by decide) hf (fun f1 hf => ?_)
    refine pz_aload_n hC dX10_undo_63 0 rfl ?_
    refine pz_getI hC dX10_undo_64 fa_X10_172 hf (fun v2 hf => ?_)
    exact pz_iretw hC hK dX10_undo_67 hf
  · refine pz_aload_n hC dX10_undo_32 0 rfl ?_
    refine pz_getR hC dX10_undo_33 fa_X10_7 hf (fun v3 hf => ?_)
    refine pz_iload_n hC dX10_undo_36 1 rfl ?_
    refine pz_aload_n hC dX10_undo_37 0 rfl ?_
    refine pz_getR hC dX10_undo_38 fa_X10_13 hf (fun v4 hf => ?_)
    refine pz_bipush (v := (87 : Int32)) hC dX10_undo_41 (by decide) ?_
    refine pz_aload_n hC dX10_undo_43 0 rfl ?_
    refine pz_getI hC dX10_undo_44 fa_X10_172 hf (fun v5 hf => ?_)
    refine pz_imul hC dX10_undo_47 ?_
    refine pz_iload_n hC dX10_undo_48 1 rfl ?_
    refine pz_iadd hC dX10_undo_49 ?_
    refine pz_iald hC dX10_undo_50 hf (fun v6 hf => ?_)
    refine pz_iast hC dX10_undo_51 hf (fun f7 hf => ?_)
    refine pz_iinc (v := (l1 + 1)) hC dX10_undo_52 1 rfl rfl (by decide) rfl ?_
    refine pz_goto hC dX10_undo_55 ?_
    refine pz_sub [1, 0] rfl ?_
    exact hk26 _ _ _ hf
def fX10_undo_26 : Nat → pz_H → Nat → Int32 → Option (Int32 × pz_H)
  | 0, _, _, _ => none
  | n + 1, f, l0, l1 => fX10_undo_26b (fX10_undo_26 n) f l0 l1
theorem tX10_undo_26 {G : pz_G} {C : pz_C} {r : (Int32 × pz_H)} (hC : pz_OK G C cX10_undo 2 RX10) (hK : pz_K C (some .int) 0 0 0 0) : ∀ (N : Nat) (f : pz_H) (l0 : Nat) (l1 : Int32), fX10_undo_26 N f l0 l1 = some r → pz_W G C 2 26 [(0, .ref l0), (1, .int l1)] [] f 0 0 (pz_Q G C (some (.int r.1)) r.2 0 0) := by
  intro N
  induction N with
  | zero => intro f l0 l1 hf; cases hf
  | succ N ih => intro f l0 l1 hf; exact tX10_undo_26b hC hK (fun f l0 l1 hf => ih f l0 l1 hf) hf
def fnX10_undo (f : pz_H) (a0 : Nat) : Option (Int32 × pz_H) :=
  (pz_is f a0 9).bind fun _ =>
  (pz_sV f a0 9 0 (.int (0 : Int32))).bind fun f1 =>
  (pz_gI f1 a0 9 4).bind fun v2 =>
  if v2 = 0 then some (((-1) : Int32), f1) else
  (pz_gI f1 a0 9 4).bind fun v3 =>
  (pz_sV f1 a0 9 4 (.int (v3 - (1 : Int32)))).bind fun f4 =>
  fX10_undo_26 pz_F f4 a0 ((0 : Int32))
theorem mX10_undo {l : Launch} {G : pz_G} {f : pz_H} {a0 : Nat} {r : (Int32 × pz_H)} (hf : fnX10_undo f a0 = some r) : pz_Met l G yX10_undo cX10_undo 2 (some .int) 0 0 0 0 [.ref a0] f (some (.int r.1)) r.2 ∧ pz_is f a0 9 = some () := by
  unfold fnX10_undo at hf
  obtain ⟨_, h0, hf⟩ := pz_bd hf
  refine ⟨pz_enter (by decide +kernel) (Nat.le_of_ble_eq_true rfl) (fun C hl hC hK hnm => ?_), h0⟩
  subst hl
  refine pz_sub (lv' := [(0, .ref a0)]) [0] rfl ?_
  refine pz_aload_n hC dX10_undo_0 0 rfl ?_
  refine pz_iconst (v := (0 : Int32)) hC dX10_undo_1 (by decide) ?_
  refine pz_putV hC dX10_undo_2 fp_X10_48 rfl rfl hf (fun f1 hf => ?_)
  refine pz_aload_n hC dX10_undo_5 0 rfl ?_
  refine pz_getI hC dX10_undo_6 fa_X10_172 hf (fun v2 hf => ?_)
  refine pz_if_ne hC dX10_undo_9 hf (fun _ hf => ?_) (fun _ hf => ?_)
  · refine pz_aload_n hC dX10_undo_14 0 rfl ?_
    refine pz_dup hC dX10_undo_15 rfl ?_
    refine pz_getI hC dX10_undo_16 fa_X10_172 hf (fun v3 hf => ?_)
    refine pz_iconst (v := (1 : Int32)) hC dX10_undo_19 (by decide) ?_
    refine pz_isub hC dX10_undo_20 ?_
    refine pz_putV hC dX10_undo_21 fp_X10_172 rfl rfl hf (fun f4 hf => ?_)
    refine pz_iconst (v := (0 : Int32)) hC dX10_undo_24 (by decide) ?_
    refine pz_istore_n hC dX10_undo_25 (by decide) rfl ?_
    refine pz_sub [1, 0] rfl ?_
    exact tX10_undo_26 hC hK _ _ _ _ hf
  · refine pz_iconst (v := ((-1) : Int32)) hC dX10_undo_12 (by decide) ?_
    exact pz_iretw hC hK dX10_undo_13 hf
def fX10_four_3b (k3 : pz_H → Nat → Int32 → Int32 → Option pz_H) (f : pz_H) (l0 : Nat) (l1 : Int32) (l2 : Int32) : Option pz_H :=
  if l2 < 0 then some f else
  (pz_gR f l0 9 13).bind fun v1 =>
  (pz_gI f l0 9 14).bind fun v2 =>
  (pz_tI f v1 0 v2 (((l1 >>> (l2 &&& 31)) &&& (255 : Int32)))).bind fun f3 =>
  (pz_gI f3 l0 9 14).bind fun v4 =>
  (pz_sV f3 l0 9 14 (.int (v4 + (1 : Int32)))).bind fun f5 =>
  k3 f5 l0 l1 ((l2 + (-8)))
theorem tX10_four_3b {G : pz_G} {C : pz_C} {f : pz_H} {k3 : pz_H → Nat → Int32 → Int32 → Option pz_H} {l0 : Nat} {l1 : Int32} {l2 : Int32} {r : pz_H} (hC : pz_OK G C cX10_four 3 RX10) (hK : pz_K C none 0 0 0 0) (hk3 : ∀ (g : pz_H) (a0 : Nat) (a1 : Int32) (a2 : Int32), k3 g a0 a1 a2 = some r → pz_W G C 3 3 [(0, .ref a0), (1, .int a1), (2, .int a2)] [] g 0 0 (pz_Q G C none r 0 0)) (hf : fX10_four_3b k3 f l0 l1 l2 = some r) : pz_W G C 3 3 [(0, .ref l0), (1, .int l1), (2, .int l2)] [] f 0 0 (pz_Q G C none r 0 0) := by
  unfold fX10_four_3b at hf
  refine pz_iload_n hC dX10_four_3 2 rfl ?_
  refine pz_if_lt hC dX10_four_4 hf (fun _ hf => ?_) (fun _ hf => ?_)
  · exact pz_vret hC hK dX10_four_39 hf
  · refine pz_aload_n hC dX10_four_7 0 rfl ?_
    refine pz_getR hC dX10_four_8 fa_X10_38 hf (fun v1 hf => ?_)
    refine pz_aload_n hC dX10_four_11 0 rfl ?_
    refine pz_getI hC dX10_four_12 fa_X10_169 hf (fun v2 hf => ?_)
    refine pz_iload_n hC dX10_four_15 1 rfl ?_
    refine pz_iload_n hC dX10_four_16 2 rfl ?_
    refine pz_ishr hC dX10_four_17 ?_
    refine pz_sipush (v := (255 : Int32)) hC dX10_four_18 (by decide) ?_
    refine pz_iand hC dX10_four_21 ?_
    refine pz_iast hC dX10_four_22 hf (fun f3 hf => ?_)
    refine pz_aload_n hC dX10_four_23 0 rfl ?_
    refine pz_dup hC dX10_four_24 rfl ?_
    refine pz_getI hC dX10_four_25 fa_X10_169 hf (fun v4 hf => ?_)
    refine pz_iconst (v := (1 : Int32)) hC dX10_four_28 (by decide) ?_
    refine pz_iadd hC dX10_four_29 ?_
    refine pz_putV hC dX10_four_30 fp_X10_169 rfl rfl hf (fun f5 hf => ?_)
    refine pz_iinc (v := (l2 + (-8))) hC dX10_four_33 2 rfl rfl (by decide) rfl ?_
    refine pz_goto hC dX10_four_36 ?_
    refine pz_sub [1, 2, 0] rfl ?_
    exact hk3 _ _ _ _ hf
def fX10_four_3 : Nat → pz_H → Nat → Int32 → Int32 → Option pz_H
  | 0, _, _, _, _ => none
  | n + 1, f, l0, l1, l2 => fX10_four_3b (fX10_four_3 n) f l0 l1 l2
theorem tX10_four_3 {G : pz_G} {C : pz_C} {r : pz_H} (hC : pz_OK G C cX10_four 3 RX10) (hK : pz_K C none 0 0 0 0) : ∀ (N : Nat) (f : pz_H) (l0 : Nat) (l1 : Int32) (l2 : Int32), fX10_four_3 N f l0 l1 l2 = some r → pz_W G C 3 3 [(0, .ref l0), (1, .int l1), (2, .int l2)] [] f 0 0 (pz_Q G C none r 0 0) := by
  intro N
  induction N with
  | zero => intro f l0 l1 l2 hf; cases hf
  | succ N ih => intro f l0 l1 l2 hf; exact tX10_four_3b hC hK (fun f l0 l1 l2 hf => ih f l0 l1 l2 hf) hf
def fnX10_four (f : pz_H) (a0 : Nat) (p1 : Int32) : Option pz_H :=
  (pz_is f a0 9).bind fun _ =>
  fX10_four_3 pz_F f a0 p1 ((24 : Int32))
theorem mX10_four {l : Launch} {G : pz_G} {f : pz_H} {a0 : Nat} {p1 : Int32} {r : pz_H} (hf : fnX10_four f a0 p1 = some r) : pz_Met l G yX10_four cX10_four 3 none 0 0 0 0 [.ref a0, .int p1] f none r ∧ pz_is f a0 9 = some () := by
  unfold fnX10_four at hf
  obtain ⟨_, h0, hf⟩ := pz_bd hf
  refine ⟨pz_enter (by decide +kernel) (Nat.le_of_ble_eq_true rfl) (fun C hl hC hK hnm => ?_), h0⟩
  subst hl
  refine pz_sub (lv' := [(0, .ref a0), (1, .int p1)]) [0, 1] rfl ?_
  refine pz_bipush (v := (24 : Int32)) hC dX10_four_0 (by decide) ?_
  refine pz_istore_n hC dX10_four_2 (by decide) rfl ?_
  refine pz_sub [1, 2, 0] rfl ?_
  exact tX10_four_3 hC hK _ _ _ _ _ hf
def fnX10_feed (f : pz_H) (a0 : Nat) (p1 : Int32) (p2 : Int32) (p3 : Int32) (p4 : Int32) (p5 : Int32) : Option (Int32 × pz_H) :=
  (pz_is f a0 9).bind fun _ =>
  (pz_sV f a0 9 0 (.int (0 : Int32))).bind fun f1 =>
  (pz_gI f1 a0 9 14).bind fun v2 =>
  if (v2 + (20 : Int32)) ≤ (400 : Int32) then (fnX10_four f1 a0 p1).bind fun x3 =>
  (fnX10_four x3 a0 p2).bind fun x4 =>
  (fnX10_four x4 a0 p3).bind fun x5 =>
  (fnX10_four x5 a0 p4).bind fun x6 =>
  (fnX10_four x6 a0 p5).bind fun x7 =>
  (pz_gI x7 a0 9 14).bind fun v8 =>
  some (v8, x7) else
  some (((-1) : Int32), f1)
theorem mX10_feed {l : Launch} {G : pz_G} {f : pz_H} {a0 : Nat} {p1 : Int32} {p2 : Int32} {p3 : Int32} {p4 : Int32} {p5 : Int32} {r : (Int32 × pz_H)} (hf : fnX10_feed f a0 p1 p2 p3 p4 p5 = some r) : pz_Met l G yX10_feed cX10_feed 6 (some .int) 1 22 0 0 [.ref a0, .int p1, .int p2, .int p3, .int p4, .int p5] f (some (.int r.1)) r.2 ∧ pz_is f a0 9 = some () := by
  unfold fnX10_feed at hf
  obtain ⟨_, h0, hf⟩ := pz_bd hf
  refine ⟨pz_enter (by decide +kernel) (Nat.le_of_ble_eq_true rfl) (fun C hl hC hK hnm => ?_), h0⟩
  subst hl
  refine pz_sub (lv' := [(0, .ref a0), (1, .int p1), (2, .int p2), (3, .int p3), (4, .int p4), (5, .int p5)]) [0, 1, 2, 3, 4, 5] rfl ?_
  refine pz_aload_n hC dX10_feed_0 0 rfl ?_
  refine pz_iconst (v := (0 : Int32)) hC dX10_feed_1 (by decide) ?_
  refine pz_putV hC dX10_feed_2 fp_X10_48 rfl rfl hf (fun f1 hf => ?_)
  refine pz_aload_n hC dX10_feed_5 0 rfl ?_
  refine pz_getI hC dX10_feed_6 fa_X10_169 hf (fun v2 hf => ?_)
  refine pz_bipush (v := (20 : Int32)) hC dX10_feed_9 (by decide) ?_
  refine pz_iadd hC dX10_feed_11 ?_
  refine pz_sipush (v := (400 : Int32)) hC dX10_feed_12 (by decide) ?_
  refine pz_icmp_le hC dX10_feed_15 hf (fun _ hf => ?_) (fun _ hf => ?_)
  · refine pz_aload_n hC dX10_feed_20 0 rfl ?_
    refine pz_iload_n hC dX10_feed_21 1 rfl ?_
    refine pz_Vv (As := [.int p1]) hC hK dX10_feed_22 py_X10_four pv_X10_four lk_X10_219 hf (fun _ h => mX10_four h) rfl rfl (Nat.le_of_ble_eq_true rfl) ⟨by decide, by decide⟩ ⟨Nat.le_of_ble_eq_true rfl, Nat.le_of_ble_eq_true rfl⟩ (fun x3 hf => ?_)
    refine pz_aload_n hC dX10_feed_25 0 rfl ?_
    refine pz_iload_n hC dX10_feed_26 2 rfl ?_
    refine pz_Vv (As := [.int p2]) hC hK dX10_feed_27 py_X10_four pv_X10_four lk_X10_219 hf (fun _ h => mX10_four h) rfl rfl (Nat.le_of_ble_eq_true rfl) ⟨by decide, by decide⟩ ⟨Nat.le_of_ble_eq_true rfl, Nat.le_of_ble_eq_true rfl⟩ (fun x4 hf => ?_)
    refine pz_aload_n hC dX10_feed_30 0 rfl ?_
    refine pz_iload_n hC dX10_feed_31 3 rfl ?_
    refine pz_Vv (As := [.int p3]) hC hK dX10_feed_32 py_X10_four pv_X10_four lk_X10_219 hf (fun _ h => mX10_four h) rfl rfl (Nat.le_of_ble_eq_true rfl) ⟨by decide, by decide⟩ ⟨Nat.le_of_ble_eq_true rfl, Nat.le_of_ble_eq_true rfl⟩ (fun x5 hf => ?_)
    refine pz_aload_n hC dX10_feed_35 0 rfl ?_
    refine pz_iload hC dX10_feed_36 4 rfl ?_
    refine pz_Vv (As := [.int p4]) hC hK dX10_feed_38 py_X10_four pv_X10_four lk_X10_219 hf (fun _ h => mX10_four h) rfl rfl (Nat.le_of_ble_eq_true rfl) ⟨by decide, by decide⟩ ⟨Nat.le_of_ble_eq_true rfl, Nat.le_of_ble_eq_true rfl⟩ (fun x6 hf => ?_)
    refine pz_aload_n hC dX10_feed_41 0 rfl ?_
    refine pz_iload hC dX10_feed_42 5 rfl ?_
    refine pz_Vv (As := [.int p5]) hC hK dX10_feed_44 py_X10_four pv_X10_four lk_X10_219 hf (fun _ h => mX10_four h) rfl rfl (Nat.le_of_ble_eq_true rfl) ⟨by decide, by decide⟩ ⟨Nat.le_of_ble_eq_true rfl, Nat.le_of_ble_eq_true rfl⟩ (fun x7 hf => ?_)
    refine pz_aload_n hC dX10_feed_47 0 rfl ?_
    refine pz_getI hC dX10_feed_48 fa_X10_169 hf (fun v8 hf => ?_)
    exact pz_iretw hC hK dX10_feed_51 hf
  · refine pz_iconst (v := ((-1) : Int32)) hC dX10_feed_18 (by decide) ?_
    exact pz_iretw hC hK dX10_feed_19 hf
def fnX10_end (f : pz_H) (a0 : Nat) (p1 : Int32) : Option (Int32 × pz_H) :=
  (pz_is f a0 9).bind fun _ =>
  (pz_sV f a0 9 0 (.int (0 : Int32))).bind fun f1 =>
  (pz_gI f1 a0 9 14).bind fun v2 =>
  (fnX10_in p1 ((0 : Int32)) v2).bind fun x3 =>
  if x3 = 0 then (pz_b ((0 : Int32))).bind fun x => some (x, f1) else
  (pz_sV f1 a0 9 14 (.int p1)).bind fun f4 =>
  (pz_b ((1 : Int32))).bind fun x => some (x, f4)
theorem mX10_end {l : Launch} {G : pz_G} {f : pz_H} {a0 : Nat} {p1 : Int32} {r : (Int32 × pz_H)} (hf : fnX10_end f a0 p1 = some r) : pz_Met l G yX10_end cX10_end 2 (some .boolean) 1 22 0 0 [.ref a0, .int p1] f (some (.int r.1)) r.2 ∧ pz_is f a0 9 = some () := by
  unfold fnX10_end at hf
  obtain ⟨_, h0, hf⟩ := pz_bd hf
  refine ⟨pz_enter (by decide +kernel) (Nat.le_of_ble_eq_true rfl) (fun C hl hC hK hnm => ?_), h0⟩
  subst hl
  refine pz_sub (lv' := [(0, .ref a0), (1, .int p1)]) [0, 1] rfl ?_
  refine pz_aload_n hC dX10_end_0 0 rfl ?_
  refine pz_iconst (v := (0 : Int32)) hC dX10_end_1 (by decide) ?_
  refine pz_putV hC dX10_end_2 fp_X10_48 rfl rfl hf (fun f1 hf => ?_)
  refine pz_iload_n hC dX10_end_5 1 rfl ?_
  refine pz_iconst (v := (0 : Int32)) hC dX10_end_6 (by decide) ?_
  refine pz_aload_n hC dX10_end_7 0 rfl ?_
  refine pz_getI hC dX10_end_8 fa_X10_169 hf (fun v2 hf => ?_)
  refine pz_Si (As := [.int p1, .int (0 : Int32), .int v2]) hC hK dX10_end_11 py_X10_in ps_X10_in lk_X10_52 hf (fun _ h => mX10_in h) rfl rfl (Nat.le_of_ble_eq_true rfl) ⟨by decide, by decide⟩ ⟨by decide, by decide⟩ (fun x3 hf => ?_)
  refine pz_if_ne hC dX10_end_14 hf (fun _ hf => ?_) (fun _ hf => ?_)
  · refine pz_aload_n hC dX10_end_19 0 rfl ?_
    refine pz_iload_n hC dX10_end_20 1 rfl ?_
    refine pz_putV hC dX10_end_21 fp_X10_169 rfl rfl hf (fun f4 hf => ?_)
    refine pz_iconst (v := (1 : Int32)) hC dX10_end_24 (by decide) ?_
    exact pz_zretw hC hK dX10_end_25 hf
  · refine pz_iconst (v := (0 : Int32)) hC dX10_end_17 (by decide) ?_
    exact pz_zretw hC hK dX10_end_18 hf
def fX10_here_39 (k0 : pz_H → Nat → Option (Int32 × pz_H)) (f : pz_H) (l0 : Nat) : Option (Int32 × pz_H) :=
  (pz_gI f l0 9 16).bind fun v1 =>
  (pz_sV f l0 9 16 (.int (v1 + (1 : Int32)))).bind fun f2 =>
  k0 f2 l0
theorem tX10_here_39 {G : pz_G} {C : pz_C} {f : pz_H} {k0 : pz_H → Nat → Option (Int32 × pz_H)} {l0 : Nat} {r : (Int32 × pz_H)} (hC : pz_OK G C cX10_here 1 RX10) (hK : pz_K C (some .int) 0 0 0 0) (hk0 : ∀ (g : pz_H) (a0 : Nat), k0 g a0 = some r → pz_W G C 1 0 [(0, .ref a0)] [] g 0 0 (pz_Q G C (some (.int r.1)) r.2 0 0)) (hf : fX10_here_39 k0 f l0 = some r) : pz_W G C 1 39 [(0, .ref l0)] [] f 0 0 (pz_Q G C (some (.int r.1)) r.2 0 0) := by
  unfold fX10_here_39 at hf
  refine pz_aload_n hC dX10_here_39 0 rfl ?_
  refine pz_dup hC dX10_here_40 rfl ?_
  refine pz_getI hC dX10_here_41 fa_X10_222 hf (fun v1 hf => ?_)
  refine pz_iconst (v := (1 : Int32)) hC dX10_here_44 (by decide) ?_
  refine pz_iadd hC dX10_here_45 ?_
  refine pz_putV hC dX10_here_46 fp_X10_222 rfl rfl hf (fun f2 hf => ?_)
  refine pz_goto hC dX10_here_49 ?_
  exact hk0 _ _ hf
def fX10_here_76 (f : pz_H) (s0 : Int32) : Option (Int32 × pz_H) :=
  some (s0, f)
theorem tX10_here_76 {G : pz_G} {C : pz_C} {f : pz_H} {s0 : Int32} {r : (Int32 × pz_H)} (hC : pz_OK G C cX10_here 1 RX10) (hK : pz_K C (some .int) 0 0 0 0) (hf : fX10_here_76 f s0 = some r) : pz_W G C 1 76 [] [.int s0] f 0 0 (pz_Q G C (some (.int r.1)) r.2 0 0) := by
  unfold fX10_here_76 at hf
  exact pz_iretw hC hK dX10_here_76 hf
def fX10_here_52 (f : pz_H) (l0 : Nat) : Option (Int32 × pz_H) :=
  (pz_gI f l0 9 16).bind fun v1 =>
  (pz_gI f l0 9 14).bind fun v2 =>
  if v2 ≤ v1 then fX10_here_76 f (((-1) : Int32)) else
  (pz_gR f l0 9 13).bind fun v3 =>
  (pz_gI f l0 9 16).bind fun v4 =>
  (pz_aI f v3 0 v4).bind fun v5 =>
  fX10_here_76 f v5
theorem tX10_here_52 {G : pz_G} {C : pz_C} {f : pz_H} {l0 : Nat} {r : (Int32 × pz_H)} (hC : pz_OK G C cX10_here 1 RX10) (hK : pz_K C (some .int) 0 0 0 0) (hf : fX10_here_52 f l0 = some r) : pz_W G C 1 52 [(0, .ref l0)] [] f 0 0 (pz_Q G C (some (.int r.1)) r.2 0 0) := by
  unfold fX10_here_52 at hf
  refine pz_aload_n hC dX10_here_52 0 rfl ?_
  refine pz_getI hC dX10_here_53 fa_X10_222 hf (fun v1 hf => ?_)
  refine pz_aload_n hC dX10_here_56 0 rfl ?_
  refine pz_getI hC dX10_here_57 fa_X10_169 hf (fun v2 hf => ?_)
  refine pz_icmp_ge hC dX10_here_60 hf (fun _ hf => ?_) (fun _ hf => ?_)
  · refine pz_iconst (v := ((-1) : Int32)) hC dX10_here_75 (by decide) ?_
    refine pz_sub [] rfl ?_
    exact tX10_here_76 hC hK hf
  · refine pz_aload_n hC dX10_here_63 0 rfl ?_
    refine pz_getR hC dX10_here_64 fa_X10_38 hf (fun v3 hf => ?_)
    refine pz_aload_n hC dX10_here_67 0 rfl ?_
    refine pz_getI hC dX10_here_68 fa_X10_222 hf (fun v4 hf => ?_)
    refine pz_iald hC dX10_here_71 hf (fun v5 hf => ?_)
    refine pz_goto hC dX10_here_72 ?_
    refine pz_sub [] rfl ?_
    exact tX10_here_76 hC hK hf
def fX10_here_0b (k0 : pz_H → Nat → Option (Int32 × pz_H)) (f : pz_H) (l0 : Nat) : Option (Int32 × pz_H) :=
  (pz_gI f l0 9 16).bind fun v1 =>
  (pz_gI f l0 9 14).bind fun v2 =>
  if v2 ≤ v1 then fX10_here_52 f l0 else
  (pz_gR f l0 9 13).bind fun v3 =>
  (pz_gI f l0 9 16).bind fun v4 =>
  (pz_aI f v3 0 v4).bind fun v5 =>
  if v5 = (32 : Int32) then fX10_here_39 k0 f l0 else
  (pz_gR f l0 9 13).bind fun v6 =>
  (pz_gI f l0 9 16).bind fun v7 =>
  (pz_aI f v6 0 v7).bind fun v8 =>
  if v8 = (10 : Int32) then fX10_here_39 k0 f l0 else
  fX10_here_52 f l0
theorem tX10_here_0b {G : pz_G} {C : pz_C} {f : pz_H} {k0 : pz_H → Nat → Option (Int32 × pz_H)} {l0 : Nat} {r : (Int32 × pz_H)} (hC : pz_OK G C cX10_here 1 RX10) (hK : pz_K C (some .int) 0 0 0 0) (hk0 : ∀ (g : pz_H) (a0 : Nat), k0 g a0 = some r → pz_W G C 1 0 [(0, .ref a0)] [] g 0 0 (pz_Q G C (some (.int r.1)) r.2 0 0)) (hf : fX10_here_0b k0 f l0 = some r) : pz_W G C 1 0 [(0, .ref l0)] [] f 0 0 (pz_Q G C (some (.int r.1)) r.2 0 0) := by
  unfold fX10_here_0b at hf
  refine pz_aload_n hC dX10_here_0 0 rfl ?_
  refine pz_getI hC dX10_here_1 fa_X10_222 hf (fun v1 hf => ?_)
  refine pz_aload_n hC dX10_here_4 0 rfl ?_
  refine pz_getI hC dX10_here_5 fa_X10_169 hf (fun v2 hf => ?_)
  refine pz_icmp_ge hC dX10_here_8 hf (fun _ hf => ?_) (fun _ hf => ?_)
  · exact tX10_here_52 hC hK hf
  · refine pz_aload_n hC dX10_here_11 0 rfl ?_
    refine pz_getR hC dX10_here_12 fa_X10_38 hf (fun v3 hf => ?_)
    refine pz_aload_n hC dX10_here_15 0 rfl ?_
    refine pz_getI hC dX10_here_16 fa_X10_222 hf (fun v4 hf => ?_)
    refine pz_iald hC dX10_here_19 hf (fun v5 hf => ?_)
    refine pz_bipush (v := (32 : Int32)) hC dX10_here_20 (by decide) ?_
    refine pz_icmp_eq hC dX10_here_22 hf (fun _ hf => ?_) (fun _ hf => ?_)
    · exact tX10_here_39 hC hK hk0 hf
    · refine pz_aload_n hC dX10_here_25 0 rfl ?_
      refine pz_getR hC dX10_here_26 fa_X10_38 hf (fun v6 hf => ?_)
      refine pz_aload_n hC dX10_here_29 0 rfl ?_
      refine pz_getI hC dX10_here_30 fa_X10_222 hf (fun v7 hf => ?_)
      refine pz_iald hC dX10_here_33 hf (fun v8 hf => ?_)
      refine pz_bipush (v := (10 : Int32)) hC dX10_here_34 (by decide) ?_
      refine pz_icmp_ne hC dX10_here_36 hf (fun _ hf => ?_) (fun _ hf => ?_)
      · exact tX10_here_52 hC hK hf
      · exact tX10_here_39 hC hK hk0 hf
def fX10_here_0 : Nat → pz_H → Nat → Option (Int32 × pz_H)
  | 0, _, _ => none
  | n + 1, f, l0 => fX10_here_0b (fX10_here_0 n) f l0
theorem tX10_here_0 {G : pz_G} {C : pz_C} {r : (Int32 × pz_H)} (hC : pz_OK G C cX10_here 1 RX10) (hK : pz_K C (some .int) 0 0 0 0) : ∀ (N : Nat) (f : pz_H) (l0 : Nat), fX10_here_0 N f l0 = some r → pz_W G C 1 0 [(0, .ref l0)] [] f 0 0 (pz_Q G C (some (.int r.1)) r.2 0 0) := by
  intro N
  induction N with
  | zero => intro f l0 hf; cases hf
  | succ N ih => intro f l0 hf; exact tX10_here_0b hC hK (fun f l0 hf => ih f l0 hf) hf
def fnX10_here (f : pz_H) (a0 : Nat) : Option (Int32 × pz_H) :=
  (pz_is f a0 9).bind fun _ =>
  fX10_here_0 pz_F f a0
theorem mX10_here {l : Launch} {G : pz_G} {f : pz_H} {a0 : Nat} {r : (Int32 × pz_H)} (hf : fnX10_here f a0 = some r) : pz_Met l G yX10_here cX10_here 1 (some .int) 0 0 0 0 [.ref a0] f (some (.int r.1)) r.2 ∧ pz_is f a0 9 = some () := by
  unfold fnX10_here at hf
  obtain ⟨_, h0, hf⟩ := pz_bd hf
  refine ⟨pz_enter (by decide +kernel) (Nat.le_of_ble_eq_true rfl) (fun C hl hC hK hnm => ?_), h0⟩
  subst hl
  refine pz_sub (lv' := [(0, .ref a0)]) [0] rfl ?_
  exact tX10_here_0 hC hK _ _ _ hf
def fnX10_fails (f : pz_H) (a0 : Nat) (p1 : Int32) (p2 : Int32) : Option (Int32 × pz_H) :=
  (pz_is f a0 9).bind fun _ =>
  (pz_sV f a0 9 17 (.int (p1 + ((8 : Int32) * p2)))).bind fun f1 =>
  (pz_b ((0 : Int32))).bind fun x => some (x, f1)
theorem mX10_fails {l : Launch} {G : pz_G} {f : pz_H} {a0 : Nat} {p1 : Int32} {p2 : Int32} {r : (Int32 × pz_H)} (hf : fnX10_fails f a0 p1 p2 = some r) : pz_Met l G yX10_fails cX10_fails 3 (some .boolean) 0 0 0 0 [.ref a0, .int p1, .int p2] f (some (.int r.1)) r.2 ∧ pz_is f a0 9 = some () := by
  unfold fnX10_fails at hf
  obtain ⟨_, h0, hf⟩ := pz_bd hf
  refine ⟨pz_enter (by decide +kernel) (Nat.le_of_ble_eq_true rfl) (fun C hl hC hK hnm => ?_), h0⟩
  subst hl
  refine pz_sub (lv' := [(0, .ref a0), (1, .int p1), (2, .int p2)]) [0, 1, 2] rfl ?_
  refine pz_aload_n hC dX10_fails_0 0 rfl ?_
  refine pz_iload_n hC dX10_fails_1 1 rfl ?_
  refine pz_bipush (v := (8 : Int32)) hC dX10_fails_2 (by decide) ?_
  refine pz_iload_n hC dX10_fails_4 2 rfl ?_
  refine pz_imul hC dX10_fails_5 ?_
  refine pz_iadd hC dX10_fails_6 ?_
  refine pz_putV hC dX10_fails_7 fp_X10_225 rfl rfl hf (fun f1 hf => ?_)
  refine pz_iconst (v := (0 : Int32)) hC dX10_fails_10 (by decide) ?_
  exact pz_zretw hC hK dX10_fails_11 hf
def fX10_number_109 (k37 : pz_H → Nat → Int32 → Int32 → Int32 → Option (Int32 × pz_H)) (f : pz_H) (l0 : Nat) (l1 : Int32) (l2 : Int32) (l3 : Int32) (s0 : Int32) (s1 : Nat) : Option (Int32 × pz_H) :=
  (pz_sV f s1 9 18 (.int s0)).bind fun f1 =>
  (pz_gI f1 l0 9 16).bind fun v2 =>
  (pz_sV f1 l0 9 16 (.int (v2 + (1 : Int32)))).bind fun f3 =>
  k37 f3 l0 l1 l2 l3
theorem tX10_number_109 {G : pz_G} {C : pz_C} {f : pz_H} {k37 : pz_H → Nat → Int32 → Int32 → Int32 → Option (Int32 × pz_H)} {l0 : Nat} {l1 : Int32} {l2 : Int32} {l3 : Int32} {s0 : Int32} {s1 : Nat} {r : (Int32 × pz_H)} (hC : pz_OK G C cX10_number 4 RX10) (hK : pz_K C (some .boolean) 1 22 0 0) (hk37 : ∀ (g : pz_H) (a0 : Nat) (a1 : Int32) (a2 : Int32) (a3 : Int32), k37 g a0 a1 a2 a3 = some r → pz_W G C 4 37 [(0, .ref a0), (1, .int a1), (2, .int a2), (3, .int a3)] [] g 0 0 (pz_Q G C (some (.int r.1)) r.2 0 0)) (hf : fX10_number_109 k37 f l0 l1 l2 l3 s0 s1 = some r) : pz_W G C 4 109 [(0, .ref l0), (1, .int l1), (2, .int l2), (3, .int l3)] [.int s0, .ref s1] f 0 0 (pz_Q G C (some (.int r.1)) r.2 0 0) := by
  unfold fX10_number_109 at hf
  refine pz_putV hC dX10_number_109 fp_X10_237 rfl rfl hf (fun f1 hf => ?_)
  refine pz_aload_n hC dX10_number_112 0 rfl ?_
  refine pz_dup hC dX10_number_113 rfl ?_
  refine pz_getI hC dX10_number_114 fa_X10_222 hf (fun v2 hf => ?_)
  refine pz_iconst (v := (1 : Int32)) hC dX10_number_117 (by decide) ?_
  refine pz_iadd hC dX10_number_118 ?_
  refine pz_putV hC dX10_number_119 fp_X10_222 rfl rfl hf (fun f3 hf => ?_)
  refine pz_goto hC dX10_number_122 ?_
  exact hk37 _ _ _ _ _ hf
def fX10_number_188 (f : pz_H) (s0 : Int32) : Option (Int32 × pz_H) :=
  (pz_b s0).bind fun x => some (x, f)
theorem tX10_number_188 {G : pz_G} {C : pz_C} {f : pz_H} {s0 : Int32} {r : (Int32 × pz_H)} (hC : pz_OK G C cX10_number 4 RX10) (hK : pz_K C (some .boolean) 1 22 0 0) (hf : fX10_number_188 f s0 = some r) : pz_W G C 4 188 [] [.int s0] f 0 0 (pz_Q G C (some (.int r.1)) r.2 0 0) := by
  unfold fX10_number_188 at hf
  exact pz_zretw hC hK dX10_number_188 hf
def fX10_number_183 (f : pz_H) : Option (Int32 × pz_H) :=
  fX10_number_188 f ((1 : Int32))
theorem tX10_number_183 {G : pz_G} {C : pz_C} {f : pz_H} {r : (Int32 × pz_H)} (hC : pz_OK G C cX10_number 4 RX10) (hK : pz_K C (some .boolean) 1 22 0 0) (hf : fX10_number_183 f = some r) : pz_W G C 4 183 [] [] f 0 0 (pz_Q G C (some (.int r.1)) r.2 0 0) := by
  unfold fX10_number_183 at hf
  refine pz_iconst (v := (1 : Int32)) hC dX10_number_183 (by decide) ?_
  refine pz_goto hC dX10_number_184 ?_
  exact tX10_number_188 hC hK hf
def fX10_number_125 (f : pz_H) (l0 : Nat) (l1 : Int32) (l2 : Int32) (l3 : Int32) : Option (Int32 × pz_H) :=
  (pz_gI f l0 9 16).bind fun v1 =>
  (pz_gI f l0 9 19).bind fun v2 =>
  if (v1 - v2) ≤ (7 : Int32) then (pz_gR f l0 9 21).bind fun v3 =>
  (pz_gI f l0 9 18).bind fun v4 =>
  (pz_tI f v3 0 l1 v4).bind fun f5 =>
  (pz_gI f5 l0 9 18).bind fun v6 =>
  (fnX10_in v6 l2 l3).bind fun x7 =>
  if x7 = 0 then (pz_gI f5 l0 9 19).bind fun v8 =>
  (fnX10_fails f5 l0 ((2 : Int32)) v8).bind fun x9 =>
  if x9.1 = 0 then fX10_number_188 x9.2 ((0 : Int32)) else
  fX10_number_183 x9.2 else
  fX10_number_183 f5 else
  (pz_gI f l0 9 19).bind fun v10 =>
  (fnX10_fails f l0 ((1 : Int32)) v10).bind fun x11 =>
  (pz_b x11.1).bind fun x => some (x, x11.2)
theorem tX10_number_125 {G : pz_G} {C : pz_C} {f : pz_H} {l0 : Nat} {l1 : Int32} {l2 : Int32} {l3 : Int32} {r : (Int32 × pz_H)} (hC : pz_OK G C cX10_number 4 RX10) (hK : pz_K C (some .boolean) 1 22 0 0) (hf : fX10_number_125 f l0 l1 l2 l3 = some r) : pz_W G C 4 125 [(0, .ref l0), (1, .int l1), (2, .int l2), (3, .int l3)] [] f 0 0 (pz_Q G C (some (.int r.1)) r.2 0 0) := by
  unfold fX10_number_125 at hf
  refine pz_aload_n hC dX10_number_125 0 rfl ?_
  refine pz_getI hC dX10_number_126 fa_X10_222 hf (fun v1 hf => ?_)
  refine pz_aload_n hC dX10_number_129 0 rfl ?_
  refine pz_getI hC dX10_number_130 fa_X10_234 hf (fun v2 hf => ?_)
  refine pz_isub hC dX10_number_133 ?_
  refine pz_bipush (v := (7 : Int32)) hC dX10_number_134 (by decide) ?_
  refine pz_icmp_le hC dX10_number_136 hf (fun _ hf => ?_) (fun _ hf => ?_)
  · refine pz_aload_n hC dX10_number_149 0 rfl ?_
    refine pz_getR hC dX10_number_150 fa_X10_41 hf (fun v3 hf => ?_)
    refine pz_iload_n hC dX10_number_153 1 rfl ?_
    refine pz_aload_n hC dX10_number_154 0 rfl ?_
    refine pz_getI hC dX10_number_155 fa_X10_237 hf (fun v4 hf => ?_)
    refine pz_iast hC dX10_number_158 hf (fun f5 hf => ?_)
    refine pz_aload_n hC dX10_number_159 0 rfl ?_
    refine pz_getI hC dX10_number_160 fa_X10_237 hf (fun v6 hf => ?_)
    refine pz_iload_n hC dX10_number_163 2 rfl ?_
    refine pz_iload_n hC dX10_number_164 3 rfl ?_
    refine pz_Si (As := [.int v6, .int l2, .int l3]) hC hK dX10_number_165 py_X10_in ps_X10_in lk_X10_52 hf (fun _ h => mX10_in h) rfl rfl (Nat.le_of_ble_eq_true rfl) ⟨by decide, by decide⟩ ⟨by decide, by decide⟩ (fun x7 hf => ?_)
    refine pz_if_ne hC dX10_number_168 hf (fun _ hf => ?_) (fun _ hf => ?_)
    · refine pz_sub [] rfl ?_
      exact tX10_number_183 hC hK hf
    · refine pz_aload_n hC dX10_number_171 0 rfl ?_
      refine pz_iconst (v := (2 : Int32)) hC dX10_number_172 (by decide) ?_
      refine pz_aload_n hC dX10_number_173 0 rfl ?_
      refine pz_getI hC dX10_number_174 fa_X10_234 hf (fun v8 hf => ?_)
      refine pz_Viw (As := [.int (2 : Int32), .int v8]) hC hK dX10_number_177 py_X10_fails pv_X10_fails lk_X10_231 hf (fun _ h => mX10_fails h) rfl rfl (Nat.le_of_ble_eq_true rfl) ⟨by decide, by decide⟩ ⟨Nat.le_of_ble_eq_true rfl, Nat.le_of_ble_eq_true rfl⟩ (fun x9 hf => ?_)
      refine pz_if_eq hC dX10_number_180 hf (fun _ hf => ?_) (fun _ hf => ?_)
      · refine pz_iconst (v := (0 : Int32)) hC dX10_number_187 (by decide) ?_
        refine pz_sub [] rfl ?_
        exact tX10_number_188 hC hK hf
      · refine pz_sub [] rfl ?_
        exact tX10_number_183 hC hK hf
  · refine pz_aload_n hC dX10_number_139 0 rfl ?_
    refine pz_iconst (v := (1 : Int32)) hC dX10_number_140 (by decide) ?_
    refine pz_aload_n hC dX10_number_141 0 rfl ?_
    refine pz_getI hC dX10_number_142 fa_X10_234 hf (fun v10 hf => ?_)
    refine pz_Viw (As := [.int (1 : Int32), .int v10]) hC hK dX10_number_145 py_X10_fails pv_X10_fails lk_X10_231 hf (fun _ h => mX10_fails h) rfl rfl (Nat.le_of_ble_eq_true rfl) ⟨by decide, by decide⟩ ⟨Nat.le_of_ble_eq_true rfl, Nat.le_of_ble_eq_true rfl⟩ (fun x11 hf => ?_)
    exact pz_zretw hC hK dX10_number_148 hf
def fX10_number_37b (k37 : pz_H → Nat → Int32 → Int32 → Int32 → Option (Int32 × pz_H)) (f : pz_H) (l0 : Nat) (l1 : Int32) (l2 : Int32) (l3 : Int32) : Option (Int32 × pz_H) :=
  (pz_gI f l0 9 16).bind fun v1 =>
  (pz_gI f l0 9 14).bind fun v2 =>
  if v2 ≤ v1 then fX10_number_125 f l0 l1 l2 l3 else
  (pz_gR f l0 9 13).bind fun v3 =>
  (pz_gI f l0 9 16).bind fun v4 =>
  (pz_aI f v3 0 v4).bind fun v5 =>
  (fnX10_in v5 ((48 : Int32)) ((57 : Int32))).bind fun x6 =>
  if x6 = 0 then fX10_number_125 f l0 l1 l2 l3 else
  (pz_gI f l0 9 16).bind fun v7 =>
  (pz_gI f l0 9 19).bind fun v8 =>
  if (7 : Int32) ≤ (v7 - v8) then (pz_gI f l0 9 18).bind fun v9 =>
  fX10_number_109 k37 f l0 l1 l2 l3 v9 l0 else
  (pz_gI f l0 9 18).bind fun v10 =>
  (pz_gR f l0 9 13).bind fun v11 =>
  (pz_gI f l0 9 16).bind fun v12 =>
  (pz_aI f v11 0 v12).bind fun v13 =>
  fX10_number_109 k37 f l0 l1 l2 l3 (((((10 : Int32) * v10) + v13) - (48 : Int32))) l0
theorem tX10_number_37b {G : pz_G} {C : pz_C} {f : pz_H} {k37 : pz_H → Nat → Int32 → Int32 → Int32 → Option (Int32 × pz_H)} {l0 : Nat} {l1 : Int32} {l2 : Int32} {l3 : Int32} {r : (Int32 × pz_H)} (hC : pz_OK G C cX10_number 4 RX10) (hK : pz_K C (some .boolean) 1 22 0 0) (hk37 : ∀ (g : pz_H) (a0 : Nat) (a1 : Int32) (a2 : Int32) (a3 : Int32), k37 g a0 a1 a2 a3 = some r → pz_W G C 4 37 [(0, .ref a0), (1, .int a1), (2, .int a2), (3, .int a3)] [] g 0 0 (pz_Q G C (some (.int r.1)) r.2 0 0)) (hf : fX10_number_37b k37 f l0 l1 l2 l3 = some r) : pz_W G C 4 37 [(0, .ref l0), (1, .int l1), (2, .int l2), (3, .int l3)] [] f 0 0 (pz_Q G C (some (.int r.1)) r.2 0 0) := by
  unfold fX10_number_37b at hf
  refine pz_aload_n hC dX10_number_37 0 rfl ?_
  refine pz_getI hC dX10_number_38 fa_X10_222 hf (fun v1 hf => ?_)
  refine pz_aload_n hC dX10_number_41 0 rfl ?_
  refine pz_getI hC dX10_number_42 fa_X10_169 hf (fun v2 hf => ?_)
  refine pz_icmp_ge hC dX10_number_45 hf (fun _ hf => ?_) (fun _ hf => ?_)
  · exact tX10_number_125 hC hK hf
  · refine pz_aload_n hC dX10_number_48 0 rfl ?_
    refine pz_getR hC dX10_number_49 fa_X10_38 hf (fun v3 hf => ?_)
    refine pz_aload_n hC dX10_number_52 0 rfl ?_
    refine pz_getI hC dX10_number_53 fa_X10_222 hf (fun v4 hf => ?_)
    refine pz_iald hC dX10_number_56 hf (fun v5 hf => ?_)
    refine pz_bipush (v := (48 : Int32)) hC dX10_number_57 (by decide) ?_
    refine pz_bipush (v := (57 : Int32)) hC dX10_number_59 (by decide) ?_
    refine pz_Si (As := [.int v5, .int (48 : Int32), .int (57 : Int32)]) hC hK dX10_number_61 py_X10_in ps_X10_in lk_X10_52 hf (fun _ h => mX10_in h) rfl rfl (Nat.le_of_ble_eq_true rfl) ⟨by decide, by decide⟩ ⟨by decide, by decide⟩ (fun x6 hf => ?_)
    refine pz_if_eq hC dX10_number_64 hf (fun _ hf => ?_) (fun _ hf => ?_)
    · exact tX10_number_125 hC hK hf
    · refine pz_aload_n hC dX10_number_67 0 rfl ?_
      refine pz_aload_n hC dX10_number_68 0 rfl ?_
      refine pz_getI hC dX10_number_69 fa_X10_222 hf (fun v7 hf => ?_)
      refine pz_aload_n hC dX10_number_72 0 rfl ?_
      refine pz_getI hC dX10_number_73 fa_X10_234 hf (fun v8 hf => ?_)
      refine pz_isub hC dX10_number_76 ?_
      refine pz_bipush (v := (7 : Int32)) hC dX10_number_77 (by decide) ?_
      refine pz_icmp_ge hC dX10_number_79 hf (fun _ hf => ?_) (fun _ hf => ?_)
      · refine pz_aload_n hC dX10_number_105 0 rfl ?_
        refine pz_getI hC dX10_number_106 fa_X10_237 hf (fun v9 hf => ?_)
        exact tX10_number_109 hC hK hk37 hf
      · refine pz_bipush (v := (10 : Int32)) hC dX10_number_82 (by decide) ?_
        refine pz_aload_n hC dX10_number_84 0 rfl ?_
        refine pz_getI hC dX10_number_85 fa_X10_237 hf (fun v10 hf => ?_)
        refine pz_imul hC dX10_number_88 ?_
        refine pz_aload_n hC dX10_number_89 0 rfl ?_
        refine pz_getR hC dX10_number_90 fa_X10_38 hf (fun v11 hf => ?_)
        refine pz_aload_n hC dX10_number_93 0 rfl ?_
        refine pz_getI hC dX10_number_94 fa_X10_222 hf (fun v12 hf => ?_)
        refine pz_iald hC dX10_number_97 hf (fun v13 hf => ?_)
        refine pz_iadd hC dX10_number_98 ?_
        refine pz_bipush (v := (48 : Int32)) hC dX10_number_99 (by decide) ?_
        refine pz_isub hC dX10_number_101 ?_
        refine pz_goto hC dX10_number_102 ?_
        exact tX10_number_109 hC hK hk37 hf
def fX10_number_37 : Nat → pz_H → Nat → Int32 → Int32 → Int32 → Option (Int32 × pz_H)
  | 0, _, _, _, _, _ => none
  | n + 1, f, l0, l1, l2, l3 => fX10_number_37b (fX10_number_37 n) f l0 l1 l2 l3
theorem tX10_number_37 {G : pz_G} {C : pz_C} {r : (Int32 × pz_H)} (hC : pz_OK G C cX10_number 4 RX10) (hK : pz_K C (some .boolean) 1 22 0 0) : ∀ (N : Nat) (f : pz_H) (l0 : Nat) (l1 : Int32) (l2 : Int32) (l3 : Int32), fX10_number_37 N f l0 l1 l2 l3 = some r → pz_W G C 4 37 [(0, .ref l0), (1, .int l1), (2, .int l2), (3, .int l3)] [] f 0 0 (pz_Q G C (some (.int r.1)) r.2 0 0) := by
  intro N
  induction N with
  | zero => intro f l0 l1 l2 l3 hf; cases hf
  | succ N ih => intro f l0 l1 l2 l3 hf; exact tX10_number_37b hC hK (fun f l0 l1 l2 l3 hf => ih f l0 l1 l2 l3 hf) hf
def fnX10_number (f : pz_H) (a0 : Nat) (p1 : Int32) (p2 : Int32) (p3 : Int32) : Option (Int32 × pz_H) :=
  (pz_is f a0 9).bind fun _ =>
  (fnX10_here f a0).bind fun x1 =>
  (fnX10_in x1.1 ((48 : Int32)) ((57 : Int32))).bind fun x2 =>
  if x2 = 0 then (pz_gI x1.2 a0 9 16).bind fun v6 =>
  (fnX10_fails x1.2 a0 ((1 : Int32)) v6).bind fun x7 =>
  (pz_b x7.1).bind fun x => some (x, x7.2) else
  (pz_gI x1.2 a0 9 16).bind fun v3 =>
  (pz_sV x1.2 a0 9 19 (.int v3)).bind fun f4 =>
  (pz_sV f4 a0 9 18 (.int (0 : Int32))).bind fun f5 =>
  fX10_number_37 pz_F f5 a0 p1 p2 p3
theorem mX10_number {l : Launch} {G : pz_G} {f : pz_H} {a0 : Nat} {p1 : Int32} {p2 : Int32} {p3 : Int32} {r : (Int32 × pz_H)} (hf : fnX10_number f a0 p1 p2 p3 = some r) : pz_Met l G yX10_number cX10_number 4 (some .boolean) 1 22 0 0 [.ref a0, .int p1, .int p2, .int p3] f (some (.int r.1)) r.2 ∧ pz_is f a0 9 = some () := by
  unfold fnX10_number at hf
  obtain ⟨_, h0, hf⟩ := pz_bd hf
  refine ⟨pz_enter (by decide +kernel) (Nat.le_of_ble_eq_true rfl) (fun C hl hC hK hnm => ?_), h0⟩
  subst hl
  refine pz_sub (lv' := [(0, .ref a0), (1, .int p1), (2, .int p2), (3, .int p3)]) [0, 1, 2, 3] rfl ?_
  refine pz_aload_n hC dX10_number_0 0 rfl ?_
  refine pz_Viw (As := []) hC hK dX10_number_1 py_X10_here pv_X10_here lk_X10_228 hf (fun _ h => mX10_here h) rfl rfl (Nat.le_of_ble_eq_true rfl) ⟨by decide, by decide⟩ ⟨Nat.le_of_ble_eq_true rfl, Nat.le_of_ble_eq_true rfl⟩ (fun x1 hf => ?_)
  refine pz_bipush (v := (48 : Int32)) hC dX10_number_4 (by decide) ?_
  refine pz_bipush (v := (57 : Int32)) hC dX10_number_6 (by decide) ?_
  refine pz_Si (As := [.int x1.1, .int (48 : Int32), .int (57 : Int32)]) hC hK dX10_number_8 py_X10_in ps_X10_in lk_X10_52 hf (fun _ h => mX10_in h) rfl rfl (Nat.le_of_ble_eq_true rfl) ⟨by decide, by decide⟩ ⟨by decide, by decide⟩ (fun x2 hf => ?_)
  refine pz_if_ne hC dX10_number_11 hf (fun _ hf => ?_) (fun _ hf => ?_)
  · refine pz_aload_n hC dX10_number_24 0 rfl ?_
    refine pz_aload_n hC dX10_number_25 0 rfl ?_
    refine pz_getI hC dX10_number_26 fa_X10_222 hf (fun v3 hf => ?_)
    refine pz_putV hC dX10_number_29 fp_X10_234 rfl rfl hf (fun f4 hf => ?_)
    refine pz_aload_n hC dX10_number_32 0 rfl ?_
    refine pz_iconst (v := (0 : Int32)) hC dX10_number_33 (by decide) ?_
    refine pz_putV hC dX10_number_34 fp_X10_237 rfl rfl hf (fun f5 hf => ?_)
    exact tX10_number_37 hC hK _ _ _ _ _ _ hf
  · refine pz_aload_n hC dX10_number_14 0 rfl ?_
    refine pz_iconst (v := (1 : Int32)) hC dX10_number_15 (by decide) ?_
    refine pz_aload_n hC dX10_number_16 0 rfl ?_
    refine pz_getI hC dX10_number_17 fa_X10_222 hf (fun v6 hf => ?_)
    refine pz_Viw (As := [.int (1 : Int32), .int v6]) hC hK dX10_number_20 py_X10_fails pv_X10_fails lk_X10_231 hf (fun _ h => mX10_fails h) rfl rfl (Nat.le_of_ble_eq_true rfl) ⟨by decide, by decide⟩ ⟨Nat.le_of_ble_eq_true rfl, Nat.le_of_ble_eq_true rfl⟩ (fun x7 hf => ?_)
    exact pz_zretw hC hK dX10_number_23 hf
def fnX10_month (f : pz_H) (a0 : Nat) (p1 : Int32) : Option (Int32 × pz_H) :=
  (pz_is f a0 9).bind fun _ =>
  (fnX10_number f a0 p1 ((0 : Int32)) ((1799 : Int32))).bind fun x1 =>
  (pz_b x1.1).bind fun x => some (x, x1.2)
theorem mX10_month {l : Launch} {G : pz_G} {f : pz_H} {a0 : Nat} {p1 : Int32} {r : (Int32 × pz_H)} (hf : fnX10_month f a0 p1 = some r) : pz_Met l G yX10_month cX10_month 2 (some .boolean) 2 45 0 0 [.ref a0, .int p1] f (some (.int r.1)) r.2 ∧ pz_is f a0 9 = some () := by
  unfold fnX10_month at hf
  obtain ⟨_, h0, hf⟩ := pz_bd hf
  refine ⟨pz_enter (by decide +kernel) (Nat.le_of_ble_eq_true rfl) (fun C hl hC hK hnm => ?_), h0⟩
  subst hl
  refine pz_sub (lv' := [(0, .ref a0), (1, .int p1)]) [0, 1] rfl ?_
  refine pz_aload_n hC dX10_month_0 0 rfl ?_
  refine pz_iload_n hC dX10_month_1 1 rfl ?_
  refine pz_iconst (v := (0 : Int32)) hC dX10_month_2 (by decide) ?_
  refine pz_sipush (v := (1799 : Int32)) hC dX10_month_3 (by decide) ?_
  refine pz_Viw (As := [.int p1, .int (0 : Int32), .int (1799 : Int32)]) hC hK dX10_month_6 py_X10_number pv_X10_number lk_X10_240 hf (fun _ h => mX10_number h) rfl rfl (Nat.le_of_ble_eq_true rfl) ⟨by decide, by decide⟩ ⟨Nat.le_of_ble_eq_true rfl, Nat.le_of_ble_eq_true rfl⟩ (fun x1 hf => ?_)
  exact pz_zretw hC hK dX10_month_9 hf
def fX10_readWord_74 (k12 : pz_H → Nat → Int64 → Int32 → Option (Int64 × pz_H)) (f : pz_H) (l0 : Nat) (l3 : Int32) (s0 : Int64) : Option (Int64 × pz_H) :=
  (pz_gI f l0 9 16).bind fun v1 =>
  (pz_sV f l0 9 16 (.int (v1 + (1 : Int32)))).bind fun f2 =>
  k12 f2 l0 s0 ((l3 + 1))
theorem tX10_readWord_74 {G : pz_G} {C : pz_C} {f : pz_H} {k12 : pz_H → Nat → Int64 → Int32 → Option (Int64 × pz_H)} {l0 : Nat} {l3 : Int32} {s0 : Int64} {r : (Int64 × pz_H)} (hC : pz_OK G C cX10_readWord 4 RX10) (hK : pz_K C (some .long) 1 22 0 0) (hk12 : ∀ (g : pz_H) (a0 : Nat) (a1 : Int64) (a3 : Int32), k12 g a0 a1 a3 = some r → pz_W G C 4 12 [(0, .ref a0), (1, .long a1), (3, .int a3)] [] g 0 0 (pz_Q G C (some (.long r.1)) r.2 0 0)) (hf : fX10_readWord_74 k12 f l0 l3 s0 = some r) : pz_W G C 4 74 [(0, .ref l0), (3, .int l3)] [.long s0] f 0 0 (pz_Q G C (some (.long r.1)) r.2 0 0) := by
  unfold fX10_readWord_74 at hf
  refine pz_lstore_n hC dX10_readWord_74 (by decide) rfl ?_
  refine pz_iinc (v := (l3 + 1)) hC dX10_readWord_75 2 rfl rfl (by decide) rfl ?_
  refine pz_aload_n hC dX10_readWord_78 2 rfl ?_
  refine pz_dup hC dX10_readWord_79 rfl ?_
  refine pz_getI hC dX10_readWord_80 fa_X10_222 hf (fun v1 hf => ?_)
  refine pz_iconst (v := (1 : Int32)) hC dX10_readWord_83 (by decide) ?_
  refine pz_iadd hC dX10_readWord_84 ?_
  refine pz_putV hC dX10_readWord_85 fp_X10_222 rfl rfl hf (fun f2 hf => ?_)
  refine pz_goto hC dX10_readWord_88 ?_
  refine pz_sub [2, 1, 0] rfl ?_
  exact hk12 _ _ _ _ hf
def fX10_readWord_91 (f : pz_H) (l1 : Int64) : Option (Int64 × pz_H) :=
  some (l1, f)
theorem tX10_readWord_91 {G : pz_G} {C : pz_C} {f : pz_H} {l1 : Int64} {r : (Int64 × pz_H)} (hC : pz_OK G C cX10_readWord 4 RX10) (hK : pz_K C (some .long) 1 22 0 0) (hf : fX10_readWord_91 f l1 = some r) : pz_W G C 4 91 [(1, .long l1)] [] f 0 0 (pz_Q G C (some (.long r.1)) r.2 0 0) := by
  unfold fX10_readWord_91 at hf
  refine pz_lload_n hC dX10_readWord_91 0 rfl ?_
  exact pz_lretw hC hK dX10_readWord_92 hf
def fX10_readWord_12b (k12 : pz_H → Nat → Int64 → Int32 → Option (Int64 × pz_H)) (f : pz_H) (l0 : Nat) (l1 : Int64) (l3 : Int32) : Option (Int64 × pz_H) :=
  (pz_gI f l0 9 16).bind fun v1 =>
  (pz_gI f l0 9 14).bind fun v2 =>
  if v2 ≤ v1 then fX10_readWord_91 f l1 else
  (pz_gR f l0 9 13).bind fun v3 =>
  (pz_gI f l0 9 16).bind fun v4 =>
  (pz_aI f v3 0 v4).bind fun v5 =>
  (fnX10_in v5 ((97 : Int32)) ((122 : Int32))).bind fun x6 =>
  if x6 = 0 then fX10_readWord_91 f l1 else
  if (8 : Int32) ≤ l3 then fX10_readWord_74 k12 f l0 l3 (((-1) : Int64)) else
  (pz_gR f l0 9 13).bind fun v7 =>
  (pz_gI f l0 9 16).bind fun v8 =>
  (pz_aI f v7 0 v8).bind fun v9 =>
  fX10_readWord_74 k12 f l0 l3 ((((l1 * (27 : Int64)) + v9.toInt64) - (96 : Int64)))
theorem tX10_readWord_12b {G : pz_G} {C : pz_C} {f : pz_H} {k12 : pz_H → Nat → Int64 → Int32 → Option (Int64 × pz_H)} {l0 : Nat} {l1 : Int64} {l3 : Int32} {r : (Int64 × pz_H)} (hC : pz_OK G C cX10_readWord 4 RX10) (hK : pz_K C (some .long) 1 22 0 0) (hk12 : ∀ (g : pz_H) (a0 : Nat) (a1 : Int64) (a3 : Int32), k12 g a0 a1 a3 = some r → pz_W G C 4 12 [(0, .ref a0), (1, .long a1), (3, .int a3)] [] g 0 0 (pz_Q G C (some (.long r.1)) r.2 0 0)) (hf : fX10_readWord_12b k12 f l0 l1 l3 = some r) : pz_W G C 4 12 [(0, .ref l0), (1, .long l1), (3, .int l3)] [] f 0 0 (pz_Q G C (some (.long r.1)) r.2 0 0) := by
  unfold fX10_readWord_12b at hf
  refine pz_aload_n hC dX10_readWord_12 0 rfl ?_
  refine pz_getI hC dX10_readWord_13 fa_X10_222 hf (fun v1 hf => ?_)
  refine pz_aload_n hC dX10_readWord_16 0 rfl ?_
  refine pz_getI hC dX10_readWord_17 fa_X10_169 hf (fun v2 hf => ?_)
  refine pz_icmp_ge hC dX10_readWord_20 hf (fun _ hf => ?_) (fun _ hf => ?_)
  · refine pz_sub [1] rfl ?_
    exact tX10_readWord_91 hC hK hf
  · refine pz_aload_n hC dX10_readWord_23 0 rfl ?_
    refine pz_getR hC dX10_readWord_24 fa_X10_38 hf (fun v3 hf => ?_)
    refine pz_aload_n hC dX10_readWord_27 0 rfl ?_
    refine pz_getI hC dX10_readWord_28 fa_X10_222 hf (fun v4 hf => ?_)
    refine pz_iald hC dX10_readWord_31 hf (fun v5 hf => ?_)
    refine pz_bipush (v := (97 : Int32)) hC dX10_readWord_32 (by decide) ?_
    refine pz_bipush (v := (122 : Int32)) hC dX10_readWord_34 (by decide) ?_
    refine pz_Si (As := [.int v5, .int (97 : Int32), .int (122 : Int32)]) hC hK dX10_readWord_36 py_X10_in ps_X10_in lk_X10_52 hf (fun _ h => mX10_in h) rfl rfl (Nat.le_of_ble_eq_true rfl) ⟨by decide, by decide⟩ ⟨by decide, by decide⟩ (fun x6 hf => ?_)
    refine pz_if_eq hC dX10_readWord_39 hf (fun _ hf => ?_) (fun _ hf => ?_)
    · refine pz_sub [1] rfl ?_
      exact tX10_readWord_91 hC hK hf
    · refine pz_iload_n hC dX10_readWord_42 2 rfl ?_
      refine pz_bipush (v := (8 : Int32)) hC dX10_readWord_43 (by decide) ?_
      refine pz_icmp_ge hC dX10_readWord_45 hf (fun _ hf => ?_) (fun _ hf => ?_)
      · refine pz_ldc2 hC dX10_readWord_71 ck_X10_185 ?_
        refine pz_sub [0, 2] rfl ?_
        exact tX10_readWord_74 hC hK hk12 hf
      · refine pz_lload_n hC dX10_readWord_48 1 rfl ?_
        refine pz_ldc2 hC dX10_readWord_49 ck_X10_243 ?_
        refine pz_lmul hC dX10_readWord_52 ?_
        refine pz_aload_n hC dX10_readWord_53 0 rfl ?_
        refine pz_getR hC dX10_readWord_54 fa_X10_38 hf (fun v7 hf => ?_)
        refine pz_aload_n hC dX10_readWord_57 0 rfl ?_
        refine pz_getI hC dX10_readWord_58 fa_X10_222 hf (fun v8 hf => ?_)
        refine pz_iald hC dX10_readWord_61 hf (fun v9 hf => ?_)
        refine pz_i2l hC dX10_readWord_62 ?_
        refine pz_ladd hC dX10_readWord_63 ?_
        refine pz_ldc2 hC dX10_readWord_64 ck_X10_245 ?_
        refine pz_lsub hC dX10_readWord_67 ?_
        refine pz_goto hC dX10_readWord_68 ?_
        refine pz_sub [0, 2] rfl ?_
        exact tX10_readWord_74 hC hK hk12 hf
def fX10_readWord_12 : Nat → pz_H → Nat → Int64 → Int32 → Option (Int64 × pz_H)
  | 0, _, _, _, _ => none
  | n + 1, f, l0, l1, l3 => fX10_readWord_12b (fX10_readWord_12 n) f l0 l1 l3
theorem tX10_readWord_12 {G : pz_G} {C : pz_C} {r : (Int64 × pz_H)} (hC : pz_OK G C cX10_readWord 4 RX10) (hK : pz_K C (some .long) 1 22 0 0) : ∀ (N : Nat) (f : pz_H) (l0 : Nat) (l1 : Int64) (l3 : Int32), fX10_readWord_12 N f l0 l1 l3 = some r → pz_W G C 4 12 [(0, .ref l0), (1, .long l1), (3, .int l3)] [] f 0 0 (pz_Q G C (some (.long r.1)) r.2 0 0) := by
  intro N
  induction N with
  | zero => intro f l0 l1 l3 hf; cases hf
  | succ N ih => intro f l0 l1 l3 hf; exact tX10_readWord_12b hC hK (fun f l0 l1 l3 hf => ih f l0 l1 l3 hf) hf
def fnX10_readWord (f : pz_H) (a0 : Nat) : Option (Int64 × pz_H) :=
  (pz_is f a0 9).bind fun _ =>
  (pz_gI f a0 9 16).bind fun v1 =>
  (pz_sV f a0 9 19 (.int v1)).bind fun f2 =>
  fX10_readWord_12 pz_F f2 a0 ((0 : Int64)) ((0 : Int32))
theorem mX10_readWord {l : Launch} {G : pz_G} {f : pz_H} {a0 : Nat} {r : (Int64 × pz_H)} (hf : fnX10_readWord f a0 = some r) : pz_Met l G yX10_readWord cX10_readWord 4 (some .long) 1 22 0 0 [.ref a0] f (some (.long r.1)) r.2 ∧ pz_is f a0 9 = some () := by
  unfold fnX10_readWord at hf
  obtain ⟨_, h0, hf⟩ := pz_bd hf
  refine ⟨pz_enter (by decide +kernel) (Nat.le_of_ble_eq_true rfl) (fun C hl hC hK hnm => ?_), h0⟩
  subst hl
  refine pz_sub (lv' := [(0, .ref a0)]) [0] rfl ?_
  refine pz_lconst (v := 0) hC dX10_readWord_0 (by decide) ?_
  refine pz_lstore_n hC dX10_readWord_1 (by decide) rfl ?_
  refine pz_iconst (v := (0 : Int32)) hC dX10_readWord_2 (by decide) ?_
  refine pz_istore_n hC dX10_readWord_3 (by decide) rfl ?_
  refine pz_aload_n hC dX10_readWord_4 2 rfl ?_
  refine pz_aload_n hC dX10_readWord_5 2 rfl ?_
  refine pz_getI hC dX10_readWord_6 fa_X10_222 hf (fun v1 hf => ?_)
  refine pz_putV hC dX10_readWord_9 fp_X10_234 rfl rfl hf (fun f2 hf => ?_)
  refine pz_sub [2, 1, 0] rfl ?_
  exact tX10_readWord_12 hC hK _ _ _ _ _ hf
def fnX10_ends (f : pz_H) (a0 : Nat) : Option (Int32 × pz_H) :=
  (pz_is f a0 9).bind fun _ =>
  (fnX10_here f a0).bind fun x1 =>
  if x1.1 = (59 : Int32) then (pz_gI x1.2 a0 9 16).bind fun v2 =>
  (pz_sV x1.2 a0 9 16 (.int (v2 + (1 : Int32)))).bind fun f3 =>
  (pz_b ((1 : Int32))).bind fun x => some (x, f3) else
  (pz_gI x1.2 a0 9 16).bind fun v4 =>
  (fnX10_fails x1.2 a0 ((1 : Int32)) v4).bind fun x5 =>
  (pz_b x5.1).bind fun x => some (x, x5.2)
theorem mX10_ends {l : Launch} {G : pz_G} {f : pz_H} {a0 : Nat} {r : (Int32 × pz_H)} (hf : fnX10_ends f a0 = some r) : pz_Met l G yX10_ends cX10_ends 1 (some .boolean) 1 22 0 0 [.ref a0] f (some (.int r.1)) r.2 ∧ pz_is f a0 9 = some () := by
  unfold fnX10_ends at hf
  obtain ⟨_, h0, hf⟩ := pz_bd hf
  refine ⟨pz_enter (by decide +kernel) (Nat.le_of_ble_eq_true rfl) (fun C hl hC hK hnm => ?_), h0⟩
  subst hl
  refine pz_sub (lv' := [(0, .ref a0)]) [0] rfl ?_
  refine pz_aload_n hC dX10_ends_0 0 rfl ?_
  refine pz_Viw (As := []) hC hK dX10_ends_1 py_X10_here pv_X10_here lk_X10_228 hf (fun _ h => mX10_here h) rfl rfl (Nat.le_of_ble_eq_true rfl) ⟨by decide, by decide⟩ ⟨Nat.le_of_ble_eq_true rfl, Nat.le_of_ble_eq_true rfl⟩ (fun x1 hf => ?_)
  refine pz_bipush (v := (59 : Int32)) hC dX10_ends_4 (by decide) ?_
  refine pz_icmp_eq hC dX10_ends_6 hf (fun _ hf => ?_) (fun _ hf => ?_)
  · refine pz_aload_n hC dX10_ends_19 0 rfl ?_
    refine pz_dup hC dX10_ends_20 rfl ?_
    refine pz_getI hC dX10_ends_21 fa_X10_222 hf (fun v2 hf => ?_)
    refine pz_iconst (v := (1 : Int32)) hC dX10_ends_24 (by decide) ?_
    refine pz_iadd hC dX10_ends_25 ?_
    refine pz_putV hC dX10_ends_26 fp_X10_222 rfl rfl hf (fun f3 hf => ?_)
    refine pz_iconst (v := (1 : Int32)) hC dX10_ends_29 (by decide) ?_
    exact pz_zretw hC hK dX10_ends_30 hf
  · refine pz_aload_n hC dX10_ends_9 0 rfl ?_
    refine pz_iconst (v := (1 : Int32)) hC dX10_ends_10 (by decide) ?_
    refine pz_aload_n hC dX10_ends_11 0 rfl ?_
    refine pz_getI hC dX10_ends_12 fa_X10_222 hf (fun v4 hf => ?_)
    refine pz_Viw (As := [.int (1 : Int32), .int v4]) hC hK dX10_ends_15 py_X10_fails pv_X10_fails lk_X10_231 hf (fun _ h => mX10_fails h) rfl rfl (Nat.le_of_ble_eq_true rfl) ⟨by decide, by decide⟩ ⟨Nat.le_of_ble_eq_true rfl, Nat.le_of_ble_eq_true rfl⟩ (fun x5 hf => ?_)
    exact pz_zretw hC hK dX10_ends_18 hf
