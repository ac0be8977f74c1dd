/-! ===== the class's plan: what stands there, the change ===== -/
section CV
variable {po z : Nat} {w pi tm : Nat → Int32} {sr : Nat → Nat} {so qo tl : Nat → Nat → Int32} {f : pz_H}
theorem spo_in {w : Nat → Int32} (hc : Cnt w) {k : Nat} (hk : k < cP w) : inI (nI k) 0 (w 4 - 1) = 1 := by
  have h4 := hc.2.1
  refine inI_1 (nI_pos (by omega)) ?_
  rw [h4.1, pred_nI (by omega), nI_ltI (by omega) (by omega)]; omega
theorem trm_in {i : Nat} (hi : i < 5) : inI (nI (10 + i)) 10 14 = 1 ∧ nI (10 + i) - 10 = nI i := by
  match i, hi with
  | 0, _ => exact ⟨by decide, rfl⟩
  | 1, _ => exact ⟨by decide, rfl⟩
  | 2, _ => exact ⟨by decide, rfl⟩
  | 3, _ => exact ⟨by decide, rfl⟩
  | 4, _ => exact ⟨by decide, rfl⟩
theorem spw_in {o : Nat} (h1 : 1 ≤ o) (h5 : o ≤ 5) : inI (nI o) 10 14 = 0 ∧ ¬ nI o = 0 ∧ ¬ nI o = 6 := by
  match o, h1, h5 with
  | 1, _, _ => exact ⟨by decide, by decide, by decide⟩
  | 2, _, _ => exact ⟨by decide, by decide, by decide⟩
  | 3, _, _ => exact ⟨by decide, by decide, by decide⟩
  | 4, _, _ => exact ⟨by decide, by decide, by decide⟩
  | 5, _, _ => exact ⟨by decide, by decide, by decide⟩
theorem c_valueOf (h : PlF f po pi tm sr so qo tl) (hr : PlnR w pi tm sr so qo tl) (hv : Vld w) {p k v : Int32} (hp : ¬ plc w p k v = -1) : fnX3_valueOf f po p k = some (w (plc w p k v).toNatClampNeg) := by
  have hP := hv.1.2.1.2
  unfold fnX3_valueOf fX3_valueOf_40
  rw [p_is h, bs, c_isTerm, bs]
  rcases plcC hv hp with ⟨e1, e2⟩ | ⟨e1, e2⟩ | ⟨i, hi, e1, e2⟩ | ⟨q, o, hq, ek, h1, h5, e1, e2⟩
  · subst e1
    rw [e2, if_pos (by decide), if_pos rfl, p_g1 h, bs, hr.1.1.2.1]; rfl
  · subst e1
    rw [e2, if_pos (by decide), if_neg (by decide), if_pos rfl, p_g2 h, bs, hr.1.1.2.2.1]; rfl
  · have hti := trm_in hi
    rw [e2, e1, hti.1, if_neg one_0, p_r3 h, bs, hti.2, p_tm h rfl hi, bs, hr.1.2.1 i hi, nI_clamp (by omega)]
  · have hq4 : q < 4 := by omega
    have hS := h.cq hq4
    obtain ⟨q0, q1, q2, q3, q4, q5, q6, q7, q8⟩ := hr.2.1 q hq
    obtain ⟨s1, s2, s3⟩ := spw_in h1 h5
    rw [e2, nI_clamp (by omega)]
    rw [e1, s1, if_pos rfl, if_neg s2, if_neg s3, c_hasSpouse h hr.1 hv.c, bs, ek, spo_in hv.c hq, if_neg one_0, p_r7 h, bs, p_qr h rfl hq4, bs]
    match o, h1, h5 with
    | 1, _, _ => rw [if_pos (by decide), q_g3 hS, bs, q3, show 37 + 8 * q + 1 = 38 + 8 * q by omega]
    | 2, _, _ => rw [if_neg (by decide), if_pos (by decide), q_g4 hS, bs, q4, show 37 + 8 * q + 2 = 39 + 8 * q by omega]
    | 3, _, _ => rw [if_neg (by decide), if_neg (by decide), if_pos (by decide), q_g5 hS, bs, q5, show 37 + 8 * q + 3 = 40 + 8 * q by omega]
    | 4, _, _ => rw [if_neg (by decide), if_neg (by decide), if_neg (by decide), if_pos (by decide), q_g6 hS, bs, q6, show 37 + 8 * q + 4 = 41 + 8 * q by omega]
    | 5, _, _ => rw [if_neg (by decide), if_neg (by decide), if_neg (by decide), if_neg (by decide), q_g7 hS, bs, q7, show 37 + 8 * q + 5 = 42 + 8 * q by omega]
theorem c_change (h : PlF f po pi tm sr so qo tl) (hr : PlnR w pi tm sr so qo tl) (hv : Vld w) {p k v : Int32} (hp : ¬ plc w p k v = -1) : ∃ pi' tm' qo', fnX3_change f po p k v = some (PB po pi' tm' sr so qo' tl f) ∧ PlnR (upd w (plc w p k v).toNatClampNeg v) pi' tm' sr so qo' tl := by
  have hP := hv.1.2.1.2
  unfold fnX3_change fX3_change_65
  rw [p_is h, bs, c_isTerm, bs]
  rcases plcC hv hp with ⟨e1, e2⟩ | ⟨e1, e2⟩ | ⟨i, hi, e1, e2⟩ | ⟨q, o, hq, ek, h1, h5, e1, e2⟩
  · subst e1
    rw [e2, nI_clamp (by omega), if_pos (by decide), if_pos rfl, p_w1 h, bs]
    exact ⟨_, tm, qo, rfl, PlnR_low hr hv (Or.inl rfl) (by rw [up_s, if_pos rfl]) (by rw [up_n (by decide), if_neg (by decide)]) (fun j a b => up_n a) (fun i hi => by rw [if_neg (by omega)])⟩
  · subst e1
    rw [e2, nI_clamp (by omega), if_pos (by decide), if_neg (by decide), if_pos rfl, p_w2 h, bs]
    exact ⟨_, tm, qo, rfl, PlnR_low hr hv (Or.inr (Or.inl rfl)) (by rw [up_n (by decide), if_neg (by decide)]) (by rw [up_s, if_pos rfl]) (fun j a b => up_n b) (fun i hi => by rw [if_neg (by omega)])⟩
  · have hti := trm_in hi
    rw [e2, nI_clamp (by omega), e1, hti.1, if_neg one_0, p_r3 h, bs, hti.2, p_wt h rfl hi, bs]
    refine ⟨pi, _, qo, rfl, PlnR_low hr hv (Or.inr (Or.inr ⟨by omega, by omega⟩)) (by rw [if_neg (by omega)]) (by rw [if_neg (by omega)]) (fun j a b => rfl) (fun j hj => ?_)⟩
    by_cases e : j = i
    · subst e; rw [upd_s, if_pos rfl]
    · rw [upd_n e, if_neg (by omega)]
  · have hq4 : q < 4 := by omega
    obtain ⟨s1, s2, s3⟩ := spw_in h1 h5
    have key := PlnR_spo hr hv (v := v) hq h1 h5
    rw [e2, nI_clamp (by omega)]
    rw [e1, s1, if_pos rfl, if_neg s2, if_neg s3, c_hasSpouse h hr.1 hv.c, bs, ek, spo_in hv.c hq, if_neg one_0, p_r7 h, bs, p_qr h rfl hq4, bs]
    unfold fnX3_changeSpouse fX3_changeSpouse_76
    match o, h1, h5, key with
    | 1, _, _, key => rw [if_pos (by decide), p_wq3 h hq4, bs, bs]; exact ⟨_, _, _, rfl, key⟩
    | 2, _, _, key => rw [if_neg (by decide), if_pos (by decide), p_wq4 h hq4, bs, bs]; exact ⟨_, _, _, rfl, key⟩
    | 3, _, _, key => rw [if_neg (by decide), if_neg (by decide), if_pos (by decide), p_wq5 h hq4, bs, bs]; exact ⟨_, _, _, rfl, key⟩
    | 4, _, _, key => rw [if_neg (by decide), if_neg (by decide), if_neg (by decide), if_pos (by decide), p_wq6 h hq4, bs, bs]; exact ⟨_, _, _, rfl, key⟩
    | 5, _, _, key => rw [if_neg (by decide), if_neg (by decide), if_neg (by decide), if_neg (by decide), if_pos (by decide), p_wq7 h hq4, bs, bs]; exact ⟨_, _, _, rfl, key⟩
theorem c_alter (h : PlF f po pi tm sr so qo tl) (hs : StaF z f) (hr : PlnR w pi tm sr so qo tl) (hv : Vld w) (p k v : Int32) : (plc w p k v = -1 ∧ fnX3_alter f po p k v = some (0, f)) ∨ (¬ plc w p k v = -1 ∧ ∃ pi' tm' qo', fnX3_alter f po p k v = some (1, PB po pi' tm' sr so qo' tl f) ∧ PlnR (upd w (plc w p k v).toNatClampNeg v) pi' tm' sr so qo' tl) := by
  unfold fnX3_alter
  rw [p_is h, bs, c_canChange h hs hr hv, bs]
  by_cases c : plc w p k v = -1
  · left; refine ⟨c, ?_⟩; rw [if_pos c, if_pos rfl, pb0, bs]
  · right; refine ⟨c, ?_⟩
    obtain ⟨pi', tm', qo', e1, e2⟩ := c_change h hr hv c
    rw [if_neg c, if_neg one_0, e1, bs, pb1, bs]
    exact ⟨_, _, _, rfl, e2⟩
end CV
