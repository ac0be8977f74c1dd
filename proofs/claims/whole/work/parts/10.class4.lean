def fX9_hasWorthInRetires_66 (f : pz_H) (s0 : Int32) : Option Int32 :=
  pz_b s0
theorem tX9_hasWorthInRetires_66 {G : pz_G} {C : pz_C} {f : pz_H} {s0 : Int32} {r : Int32} (hC : pz_OK G C cX9_hasWorthInRetires 2 RX9) (hK : pz_K C (some .boolean) 1 21 0 0) (hf : fX9_hasWorthInRetires_66 f s0 = some r) : pz_W G C 2 66 [] [.int s0] f 0 0 (pz_Q G C (some (.int r)) f 0 0) := by
  unfold fX9_hasWorthInRetires_66 at hf
  exact pz_zret hC hK dX9_hasWorthInRetires_66 hf
def fX9_hasWorthInRetires_65 (f : pz_H) : Option Int32 :=
  fX9_hasWorthInRetires_66 f ((0 : Int32))
theorem tX9_hasWorthInRetires_65 {G : pz_G} {C : pz_C} {f : pz_H} {r : Int32} (hC : pz_OK G C cX9_hasWorthInRetires 2 RX9) (hK : pz_K C (some .boolean) 1 21 0 0) (hf : fX9_hasWorthInRetires_65 f = some r) : pz_W G C 2 65 [] [] f 0 0 (pz_Q G C (some (.int r)) f 0 0) := by
  unfold fX9_hasWorthInRetires_65 at hf
  refine pz_iconst (v := (0 : Int32)) hC dX9_hasWorthInRetires_65 (by decide) ?_
  exact tX9_hasWorthInRetires_66 hC hK hf
def fnX9_hasWorthInRetires (f : pz_H) (a0 : Nat) (p1 : Int32) : Option Int32 :=
  (pz_is f a0 8).bind fun _ =>
  (pz_gR f a0 8 1).bind fun v1 =>
  (fnX3_hasSpouse f v1 p1).bind fun x2 =>
  if x2 = 0 then fX9_hasWorthInRetires_65 f else
  (pz_gR f a0 8 1).bind fun v3 =>
  (pz_gI f v3 2 1).bind fun v4 =>
  if v4 = ((-1) : Int32) then fX9_hasWorthInRetires_65 f else
  (pz_gR f a0 8 1).bind fun v5 =>
  (pz_gI f v5 2 0).bind fun v6 =>
  (pz_gR f a0 8 1).bind fun v7 =>
  (pz_gI f v7 2 1).bind fun v8 =>
  if v8 < v6 then fX9_hasWorthInRetires_65 f else
  (pz_gR f a0 8 1).bind fun v9 =>
  (pz_gR f v9 2 7).bind fun v10 =>
  (pz_aR f v10 4 p1).bind fun v11 =>
  (pz_gI f v11 6 0).bind fun v12 =>
  (pz_gR f a0 8 1).bind fun v13 =>
  (pz_gI f v13 2 1).bind fun v14 =>
  if v14 < v12 then fX9_hasWorthInRetires_65 f else
  fX9_hasWorthInRetires_66 f ((1 : Int32))
theorem mX9_hasWorthInRetires {l : Launch} {G : pz_G} {f : pz_H} {a0 : Nat} {p1 : Int32} {r : Int32} (hf : fnX9_hasWorthInRetires f a0 p1 = some r) : pz_Met l G yX9_hasWorthInRetires cX9_hasWorthInRetires 2 (some .boolean) 1 21 0 0 [.ref a0, .int p1] f (some (.int r)) f ∧ pz_is f a0 8 = some () := by
  unfold fnX9_hasWorthInRetires at hf
  obtain ⟨_, h0, hf⟩ := pz_bd hf
  refine ⟨pz_enter (by decide +kernel) (Nat.le_of_ble_eq_true rfl) (fun C hl hC hK hnm => ?_), h0⟩
  subst hl
  refine pz_sub (lv' := [(0, .ref a0), (1, .int p1)]) [0, 1] rfl ?_
  refine pz_aload_n hC dX9_hasWorthInRetires_0 0 rfl ?_
  refine pz_getR hC dX9_hasWorthInRetires_1 fa_X9_16 hf (fun v1 hf => ?_)
  refine pz_iload_n hC dX9_hasWorthInRetires_4 1 rfl ?_
  refine pz_Vi (As := [.int p1]) hC hK dX9_hasWorthInRetires_5 py_X3_hasSpouse pv_X3_hasSpouse lk_X9_140 hf (fun _ h => mX3_hasSpouse h) rfl rfl (Nat.le_of_ble_eq_true rfl) ⟨by decide, by decide⟩ ⟨Nat.le_of_ble_eq_true rfl, Nat.le_of_ble_eq_true rfl⟩ (fun x2 hf => ?_)
  refine pz_if_eq hC dX9_hasWorthInRetires_8 hf (fun _ hf => ?_) (fun _ hf => ?_)
  · refine pz_sub [] rfl ?_
    exact tX9_hasWorthInRetires_65 hC hK hf
  · refine pz_aload_n hC dX9_hasWorthInRetires_11 0 rfl ?_
    refine pz_getR hC dX9_hasWorthInRetires_12 fa_X9_16 hf (fun v3 hf => ?_)
    refine pz_getI hC dX9_hasWorthInRetires_15 fa_X9_110 hf (fun v4 hf => ?_)
    refine pz_iconst (v := ((-1) : Int32)) hC dX9_hasWorthInRetires_18 (by decide) ?_
    refine pz_icmp_eq hC dX9_hasWorthInRetires_19 hf (fun _ hf => ?_) (fun _ hf => ?_)
    · refine pz_sub [] rfl ?_
      exact tX9_hasWorthInRetires_65 hC hK hf
    · refine pz_aload_n hC dX9_hasWorthInRetires_22 0 rfl ?_
      refine pz_getR hC dX9_hasWorthInRetires_23 fa_X9_16 hf (fun v5 hf => ?_)
      refine pz_getI hC dX9_hasWorthInRetires_26 fa_X9_107 hf (fun v6 hf => ?_)
      refine pz_aload_n hC dX9_hasWorthInRetires_29 0 rfl ?_
      refine pz_getR hC dX9_hasWorthInRetires_30 fa_X9_16 hf (fun v7 hf => ?_)
      refine pz_getI hC dX9_hasWorthInRetires_33 fa_X9_110 hf (fun v8 hf => ?_)
      refine pz_icmp_gt hC dX9_hasWorthInRetires_36 hf (fun _ hf => ?_) (fun _ hf => ?_)
      · refine pz_sub [] rfl ?_
        exact tX9_hasWorthInRetires_65 hC hK hf
      · refine pz_aload_n hC dX9_hasWorthInRetires_39 0 rfl ?_
        refine pz_getR hC dX9_hasWorthInRetires_40 fa_X9_16 hf (fun v9 hf => ?_)
        refine pz_getR hC dX9_hasWorthInRetires_43 fa_X9_145 hf (fun v10 hf => ?_)
        refine pz_iload_n hC dX9_hasWorthInRetires_46 1 rfl ?_
        refine pz_aald hC dX9_hasWorthInRetires_47 (fun _ => rfl) (by decide) hf (fun v11 hf => ?_)
        refine pz_getI hC dX9_hasWorthInRetires_48 fa_X9_149 hf (fun v12 hf => ?_)
        refine pz_aload_n hC dX9_hasWorthInRetires_51 0 rfl ?_
        refine pz_getR hC dX9_hasWorthInRetires_52 fa_X9_16 hf (fun v13 hf => ?_)
        refine pz_getI hC dX9_hasWorthInRetires_55 fa_X9_110 hf (fun v14 hf => ?_)
        refine pz_icmp_gt hC dX9_hasWorthInRetires_58 hf (fun _ hf => ?_) (fun _ hf => ?_)
        · refine pz_sub [] rfl ?_
          exact tX9_hasWorthInRetires_65 hC hK hf
        · refine pz_iconst (v := (1 : Int32)) hC dX9_hasWorthInRetires_61 (by decide) ?_
          refine pz_goto hC dX9_hasWorthInRetires_62 ?_
          refine pz_sub [] rfl ?_
          exact tX9_hasWorthInRetires_66 hC hK hf
def fX9_claimBest_32 (f : pz_H) (s0 : Int32) : Option (Int32 × pz_H) :=
  some (s0, f)
theorem tX9_claimBest_32 {G : pz_G} {C : pz_C} {f : pz_H} {s0 : Int32} {r : (Int32 × pz_H)} (hC : pz_OK G C cX9_claimBest 2 RX9) (hK : pz_K C (some .int) 4 114 0 0) (hf : fX9_claimBest_32 f s0 = some r) : pz_W G C 2 32 [] [.int s0] f 0 0 (pz_Q G C (some (.int r.1)) r.2 0 0) := by
  unfold fX9_claimBest_32 at hf
  exact pz_iretw hC hK dX9_claimBest_32 hf
def fnX9_claimBest (f : pz_H) (a0 : Nat) (p1 : Int32) : Option (Int32 × pz_H) :=
  (pz_is f a0 8).bind fun _ =>
  (fnX9_hasWorthInRetires f a0 p1).bind fun x1 =>
  if x1 = 0 then fX9_claimBest_32 f (((-1) : Int32)) else
  (pz_gR f a0 8 6).bind fun v2 =>
  (pz_gR f a0 8 1).bind fun v3 =>
  (pz_gR f a0 8 1).bind fun v4 =>
  (pz_gR f v4 2 7).bind fun v5 =>
  (pz_aR f v5 4 p1).bind fun v6 =>
  (fnX5_bestClaim f v2 v3 v6).bind fun x7 =>
  fX9_claimBest_32 x7.2 x7.1
theorem mX9_claimBest {l : Launch} {G : pz_G} {f : pz_H} {a0 : Nat} {p1 : Int32} {r : (Int32 × pz_H)} (hf : fnX9_claimBest f a0 p1 = some r) : pz_Met l G yX9_claimBest cX9_claimBest 2 (some .int) 4 114 0 0 [.ref a0, .int p1] f (some (.int r.1)) r.2 ∧ pz_is f a0 8 = some () := by
  unfold fnX9_claimBest at hf
  obtain ⟨_, h0, hf⟩ := pz_bd hf
  refine ⟨pz_enter (by decide +kernel) (Nat.le_of_ble_eq_true rfl) (fun C hl hC hK hnm => ?_), h0⟩
  subst hl
  refine pz_sub (lv' := [(0, .ref a0), (1, .int p1)]) [0, 1] rfl ?_
  refine pz_aload_n hC dX9_claimBest_0 0 rfl ?_
  refine pz_iload_n hC dX9_claimBest_1 1 rfl ?_
  refine pz_Vi (As := [.int p1]) hC hK dX9_claimBest_2 py_X9_hasWorthInRetires pv_X9_hasWorthInRetires lk_X9_258 hf (fun _ h => mX9_hasWorthInRetires h) rfl rfl (Nat.le_of_ble_eq_true rfl) ⟨by decide, by decide⟩ ⟨Nat.le_of_ble_eq_true rfl, Nat.le_of_ble_eq_true rfl⟩ (fun x1 hf => ?_)
  refine pz_if_eq hC dX9_claimBest_5 hf (fun _ hf => ?_) (fun _ hf => ?_)
  · refine pz_iconst (v := ((-1) : Int32)) hC dX9_claimBest_31 (by decide) ?_
    refine pz_sub [] rfl ?_
    exact tX9_claimBest_32 hC hK hf
  · refine pz_aload_n hC dX9_claimBest_8 0 rfl ?_
    refine pz_getR hC dX9_claimBest_9 fa_X9_40 hf (fun v2 hf => ?_)
    refine pz_aload_n hC dX9_claimBest_12 0 rfl ?_
    refine pz_getR hC dX9_claimBest_13 fa_X9_16 hf (fun v3 hf => ?_)
    refine pz_aload_n hC dX9_claimBest_16 0 rfl ?_
    refine pz_getR hC dX9_claimBest_17 fa_X9_16 hf (fun v4 hf => ?_)
    refine pz_getR hC dX9_claimBest_20 fa_X9_145 hf (fun v5 hf => ?_)
    refine pz_iload_n hC dX9_claimBest_23 1 rfl ?_
    refine pz_aald hC dX9_claimBest_24 (fun _ => rfl) (by decide) hf (fun v6 hf => ?_)
    refine pz_Viw (As := [.ref v3, .ref v6]) hC hK dX9_claimBest_25 py_X5_bestClaim pv_X5_bestClaim lk_X9_261 hf (fun _ h => mX5_bestClaim h) rfl rfl (Nat.le_of_ble_eq_true rfl) ⟨by decide, by decide⟩ ⟨Nat.le_of_ble_eq_true rfl, Nat.le_of_ble_eq_true rfl⟩ (fun x7 hf => ?_)
    refine pz_goto hC dX9_claimBest_28 ?_
    refine pz_sub [] rfl ?_
    exact tX9_claimBest_32 hC hK hf
def fX9_half_24 (f : pz_H) : Option (Int32 × pz_H) :=
  some (((-1) : Int32), f)
theorem tX9_half_24 {G : pz_G} {C : pz_C} {f : pz_H} {r : (Int32 × pz_H)} (hC : pz_OK G C cX9_half 2 RX9) (hK : pz_K C (some .int) 6 159 0 0) (hf : fX9_half_24 f = some r) : pz_W G C 2 24 [] [] f 0 0 (pz_Q G C (some (.int r.1)) r.2 0 0) := by
  unfold fX9_half_24 at hf
  refine pz_iconst (v := ((-1) : Int32)) hC dX9_half_24 (by decide) ?_
  exact pz_iretw hC hK dX9_half_25 hf
def fnX9_half (f : pz_H) (a0 : Nat) (p1 : Int32) : Option (Int32 × pz_H) :=
  (pz_is f a0 8).bind fun _ =>
  (fnX9_hasWorthInRetires f a0 p1).bind fun x1 =>
  if x1 = 0 then fX9_half_24 f else
  (pz_gR f a0 8 1).bind fun v2 =>
  (pz_gR f v2 2 7).bind fun v3 =>
  (pz_aR f v3 4 p1).bind fun v4 =>
  (pz_gI f v4 6 2).bind fun v5 =>
  if v5 = ((-1) : Int32) then fX9_half_24 f else
  (pz_gR f a0 8 6).bind fun v6 =>
  (pz_gR f a0 8 1).bind fun v7 =>
  (pz_gR f a0 8 1).bind fun v8 =>
  (pz_gR f v8 2 7).bind fun v9 =>
  (pz_aR f v9 4 p1).bind fun v10 =>
  (fnX5_leastHalf f v6 v7 v10).bind fun x11 =>
  some (x11.1, x11.2)
theorem mX9_half {l : Launch} {G : pz_G} {f : pz_H} {a0 : Nat} {p1 : Int32} {r : (Int32 × pz_H)} (hf : fnX9_half f a0 p1 = some r) : pz_Met l G yX9_half cX9_half 2 (some .int) 6 159 0 0 [.ref a0, .int p1] f (some (.int r.1)) r.2 ∧ pz_is f a0 8 = some () := by
  unfold fnX9_half at hf
  obtain ⟨_, h0, hf⟩ := pz_bd hf
  refine ⟨pz_enter (by decide +kernel) (Nat.le_of_ble_eq_true rfl) (fun C hl hC hK hnm => ?_), h0⟩
  subst hl
  refine pz_sub (lv' := [(0, .ref a0), (1, .int p1)]) [0, 1] rfl ?_
  refine pz_aload_n hC dX9_half_0 0 rfl ?_
  refine pz_iload_n hC dX9_half_1 1 rfl ?_
  refine pz_Vi (As := [.int p1]) hC hK dX9_half_2 py_X9_hasWorthInRetires pv_X9_hasWorthInRetires lk_X9_258 hf (fun _ h => mX9_hasWorthInRetires h) rfl rfl (Nat.le_of_ble_eq_true rfl) ⟨by decide, by decide⟩ ⟨Nat.le_of_ble_eq_true rfl, Nat.le_of_ble_eq_true rfl⟩ (fun x1 hf => ?_)
  refine pz_if_eq hC dX9_half_5 hf (fun _ hf => ?_) (fun _ hf => ?_)
  · refine pz_sub [] rfl ?_
    exact tX9_half_24 hC hK hf
  · refine pz_aload_n hC dX9_half_8 0 rfl ?_
    refine pz_getR hC dX9_half_9 fa_X9_16 hf (fun v2 hf => ?_)
    refine pz_getR hC dX9_half_12 fa_X9_145 hf (fun v3 hf => ?_)
    refine pz_iload_n hC dX9_half_15 1 rfl ?_
    refine pz_aald hC dX9_half_16 (fun _ => rfl) (by decide) hf (fun v4 hf => ?_)
    refine pz_getI hC dX9_half_17 fa_X9_155 hf (fun v5 hf => ?_)
    refine pz_iconst (v := ((-1) : Int32)) hC dX9_half_20 (by decide) ?_
    refine pz_icmp_ne hC dX9_half_21 hf (fun _ hf => ?_) (fun _ hf => ?_)
    · refine pz_aload_n hC dX9_half_26 0 rfl ?_
      refine pz_getR hC dX9_half_27 fa_X9_40 hf (fun v6 hf => ?_)
      refine pz_aload_n hC dX9_half_30 0 rfl ?_
      refine pz_getR hC dX9_half_31 fa_X9_16 hf (fun v7 hf => ?_)
      refine pz_aload_n hC dX9_half_34 0 rfl ?_
      refine pz_getR hC dX9_half_35 fa_X9_16 hf (fun v8 hf => ?_)
      refine pz_getR hC dX9_half_38 fa_X9_145 hf (fun v9 hf => ?_)
      refine pz_iload_n hC dX9_half_41 1 rfl ?_
      refine pz_aald hC dX9_half_42 (fun _ => rfl) (by decide) hf (fun v10 hf => ?_)
      refine pz_Viw (As := [.ref v7, .ref v10]) hC hK dX9_half_43 py_X5_leastHalf pv_X5_leastHalf lk_X9_265 hf (fun _ h => mX5_leastHalf h) rfl rfl (Nat.le_of_ble_eq_true rfl) ⟨by decide, by decide⟩ ⟨Nat.le_of_ble_eq_true rfl, Nat.le_of_ble_eq_true rfl⟩ (fun x11 hf => ?_)
      exact pz_iretw hC hK dX9_half_46 hf
    · refine pz_sub [] rfl ?_
      exact tX9_half_24 hC hK hf
def fX9_crosses_38 (f : pz_H) : Option (Int32 × pz_H) :=
  some (((-1) : Int32), f)
theorem tX9_crosses_38 {G : pz_G} {C : pz_C} {f : pz_H} {r : (Int32 × pz_H)} (hC : pz_OK G C cX9_crosses 2 RX9) (hK : pz_K C (some .int) 5 132 0 0) (hf : fX9_crosses_38 f = some r) : pz_W G C 2 38 [] [] f 0 0 (pz_Q G C (some (.int r.1)) r.2 0 0) := by
  unfold fX9_crosses_38 at hf
  refine pz_iconst (v := ((-1) : Int32)) hC dX9_crosses_38 (by decide) ?_
  exact pz_iretw hC hK dX9_crosses_39 hf
def fnX9_crosses (f : pz_H) (a0 : Nat) (p1 : Int32) : Option (Int32 × pz_H) :=
  (pz_is f a0 8).bind fun _ =>
  (pz_gR f a0 8 1).bind fun v1 =>
  (fnX3_hasSpouse f v1 p1).bind fun x2 =>
  if x2 = 0 then fX9_crosses_38 f else
  (pz_gR f a0 8 1).bind fun v3 =>
  (pz_gR f v3 2 7).bind fun v4 =>
  (pz_aR f v4 4 p1).bind fun v5 =>
  (pz_gI f v5 6 2).bind fun v6 =>
  if v6 = ((-1) : Int32) then fX9_crosses_38 f else
  (pz_gR f a0 8 1).bind fun v7 =>
  (pz_gI f v7 2 1).bind fun v8 =>
  if v8 = ((-1) : Int32) then fX9_crosses_38 f else
  (pz_gR f a0 8 6).bind fun v9 =>
  (pz_gR f a0 8 1).bind fun v10 =>
  (pz_gR f a0 8 1).bind fun v11 =>
  (pz_gR f v11 2 7).bind fun v12 =>
  (pz_aR f v12 4 p1).bind fun v13 =>
  (fnX5_firstCrossing f v9 v10 v13).bind fun x14 =>
  some (x14.1, x14.2)
theorem mX9_crosses {l : Launch} {G : pz_G} {f : pz_H} {a0 : Nat} {p1 : Int32} {r : (Int32 × pz_H)} (hf : fnX9_crosses f a0 p1 = some r) : pz_Met l G yX9_crosses cX9_crosses 2 (some .int) 5 132 0 0 [.ref a0, .int p1] f (some (.int r.1)) r.2 ∧ pz_is f a0 8 = some () := by
  unfold fnX9_crosses at hf
  obtain ⟨_, h0, hf⟩ := pz_bd hf
  refine ⟨pz_enter (by decide +kernel) (Nat.le_of_ble_eq_true rfl) (fun C hl hC hK hnm => ?_), h0⟩
  subst hl
  refine pz_sub (lv' := [(0, .ref a0), (1, .int p1)]) [0, 1] rfl ?_
  refine pz_aload_n hC dX9_crosses_0 0 rfl ?_
  refine pz_getR hC dX9_crosses_1 fa_X9_16 hf (fun v1 hf => ?_)
  refine pz_iload_n hC dX9_crosses_4 1 rfl ?_
  refine pz_Vi (As := [.int p1]) hC hK dX9_crosses_5 py_X3_hasSpouse pv_X3_hasSpouse lk_X9_140 hf (fun _ h => mX3_hasSpouse h) rfl rfl (Nat.le_of_ble_eq_true rfl) ⟨by decide, by decide⟩ ⟨Nat.le_of_ble_eq_true rfl, Nat.le_of_ble_eq_true rfl⟩ (fun x2 hf => ?_)
  refine pz_if_eq hC dX9_crosses_8 hf (fun _ hf => ?_) (fun _ hf => ?_)
  · refine pz_sub [] rfl ?_
    exact tX9_crosses_38 hC hK hf
  · refine pz_aload_n hC dX9_crosses_11 0 rfl ?_
    refine pz_getR hC dX9_crosses_12 fa_X9_16 hf (fun v3 hf => ?_)
    refine pz_getR hC dX9_crosses_15 fa_X9_145 hf (fun v4 hf => ?_)
    refine pz_iload_n hC dX9_crosses_18 1 rfl ?_
    refine pz_aald hC dX9_crosses_19 (fun _ => rfl) (by decide) hf (fun v5 hf => ?_)
    refine pz_getI hC dX9_crosses_20 fa_X9_155 hf (fun v6 hf => ?_)
    refine pz_iconst (v := ((-1) : Int32)) hC dX9_crosses_23 (by decide) ?_
    refine pz_icmp_eq hC dX9_crosses_24 hf (fun _ hf => ?_) (fun _ hf => ?_)
    · refine pz_sub [] rfl ?_
      exact tX9_crosses_38 hC hK hf
    · refine pz_aload_n hC dX9_crosses_27 0 rfl ?_
      refine pz_getR hC dX9_crosses_28 fa_X9_16 hf (fun v7 hf => ?_)
      refine pz_getI hC dX9_crosses_31 fa_X9_110 hf (fun v8 hf => ?_)
      refine pz_iconst (v := ((-1) : Int32)) hC dX9_crosses_34 (by decide) ?_
      refine pz_icmp_ne hC dX9_crosses_35 hf (fun _ hf => ?_) (fun _ hf => ?_)
      · refine pz_aload_n hC dX9_crosses_40 0 rfl ?_
        refine pz_getR hC dX9_crosses_41 fa_X9_40 hf (fun v9 hf => ?_)
        refine pz_aload_n hC dX9_crosses_44 0 rfl ?_
        refine pz_getR hC dX9_crosses_45 fa_X9_16 hf (fun v10 hf => ?_)
        refine pz_aload_n hC dX9_crosses_48 0 rfl ?_
        refine pz_getR hC dX9_crosses_49 fa_X9_16 hf (fun v11 hf => ?_)
        refine pz_getR hC dX9_crosses_52 fa_X9_145 hf (fun v12 hf => ?_)
        refine pz_iload_n hC dX9_crosses_55 1 rfl ?_
        refine pz_aald hC dX9_crosses_56 (fun _ => rfl) (by decide) hf (fun v13 hf => ?_)
        refine pz_Viw (As := [.ref v10, .ref v13]) hC hK dX9_crosses_57 py_X5_firstCrossing pv_X5_firstCrossing lk_X9_268 hf (fun _ h => mX5_firstCrossing h) rfl rfl (Nat.le_of_ble_eq_true rfl) ⟨by decide, by decide⟩ ⟨Nat.le_of_ble_eq_true rfl, Nat.le_of_ble_eq_true rfl⟩ (fun x14 hf => ?_)
        exact pz_iretw hC hK dX9_crosses_60 hf
      · refine pz_sub [] rfl ?_
        exact tX9_crosses_38 hC hK hf
