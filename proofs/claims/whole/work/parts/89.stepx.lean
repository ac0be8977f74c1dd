/-! ===== the step of the readers that throw ===== -/
section XSP
variable {f f' : pz_H} {z xo n k : Nat} {w tp : Nat → Int32} {lf : Int32} {ws : Nat → Nat → Int32}
theorem spn_of {w : Nat → Int32} (hv : Vld w) {p : Int32} (h : ¬ inI p 0 (w 3 - 1) = 0) : p = nI p.toNatClampNeg ∧ p.toNatClampNeg < cS w := by
  have h2 := (not_congr inI_0).mp h
  have h3 : ¬ p < 0 := fun z => h2 (Or.inl z)
  have h4 : ¬ w 3 - 1 < p := fun z => h2 (Or.inr z)
  obtain ⟨⟨c1, c2⟩, -⟩ := hv.c
  rw [i32_lt, z32] at h3
  obtain ⟨e1, e2⟩ := nI_clampI (x := p) (by omega)
  refine ⟨e1, ?_⟩
  have t1 : (w 3).toInt = cS w := by rw [c1, nI_toInt (by omega)]
  have t2 : (1 : Int32).toInt = 1 := rfl
  rw [i32_lt, i32_sub (by rw [t1, t2]; omega) (by rw [t1, t2]; omega), t1, t2] at h4
  omega
theorem spn_no {w : Nat → Int32} (hv : Vld w) {p : Int32} (h : inI p 0 (w 3 - 1) = 0) : p < 0 ∨ ¬ p < w 3 := by
  rcases inI_0.mp h with h | h
  · exact Or.inl h
  · refine Or.inr ?_
    obtain ⟨⟨c1, c2⟩, -⟩ := hv.c
    have t1 : (w 3).toInt = cS w := by rw [c1, nI_toInt (by omega)]
    have t2 : (1 : Int32).toInt = 1 := rfl
    rw [i32_lt, i32_sub (by rw [t1, t2]; omega) (by rw [t1, t2]; omega), t1, t2] at h
    rw [i32_lt, t1]; omega
theorem in_small {q : Int32} {m : Nat} (hm : m ≤ 20) (h : ¬ inI q 0 (nI m) = 0) : ∃ j, j ≤ m ∧ q = nI j := by
  have h2 := inI_of h
  rw [z32, nI_toInt (by omega)] at h2
  obtain ⟨e1, e2⟩ := nI_clampI (x := q) (by omega)
  exact ⟨_, by omega, e1⟩
theorem x_span (h : XI f z xo w lf n k tp ws) (hv : Vld w) (p q : Int32) : fnX9_span f xo p q = some (if spnR w p q ≤ 0 then some (spnV w p q) else none) := by
  obtain ⟨-, b, ⟨pi, tm, sr, so, qo, tl, c, hr⟩, -⟩ := h
  have hs := hr.1.sp
  unfold fnX9_span
  rw [ob_is b, bs]
  by_cases c0 : inI p 0 (w 3 - 1) = 0
  · have e : spnR w p q = 1 := by unfold spnR; rw [if_pos c0]
    rw [if_neg (show ¬ spnR w p q ≤ 0 by rw [e]; decide)]
    by_cases c1 : p < 0
    · rw [if_pos c1]
    · rw [if_neg c1, ob_r1 b, bs, p_g5 c, bs, hs.1, if_neg ((spn_no hv c0).resolve_left c1)]
  · obtain ⟨e1, e2⟩ := spn_of hv c0
    have c8 : cS w ≤ 8 := hv.c.1.2
    have hn : ¬ p < 0 := fun z => c0 (inI_0.mpr (Or.inl z))
    have hl : p < w 3 := by
      rw [hv.c.1.1, e1, nI_ltI (by omega) (by omega)]; exact e2
    obtain ⟨k0, k1, k2⟩ := hs.2.2 _ e2
    have hj := hs.2.1 p.toNatClampNeg (by omega)
    rw [if_neg hn, ob_r1 b, bs, p_g5 c, bs, hs.1, if_pos hl, bs, p_r4 c, bs, p_sr c e1 (by omega), bs, p_s0g c hj, p_s1g c hj, p_s2g c hj, k0, k1, k2]
    by_cases c2 : inI q 0 2 = 0
    · have e : spnR w p q = 1 := by unfold spnR; rw [if_neg c0, if_pos c2]
      have h2 := inI_0.mp c2
      rw [if_neg (show ¬ spnR w p q ≤ 0 by rw [e]; decide), if_neg (fun z => by subst z; revert c2; decide), if_neg (fun z => by subst z; revert c2; decide), if_neg (fun z => by subst z; revert c2; decide)]
    · have e : spnR w p q = 0 := by unfold spnR; rw [if_neg c0, if_neg c2]
      have hle : spnR w p q ≤ 0 := by rw [e]; decide
      rw [if_pos hle]
      unfold spnV
      rw [if_pos hle]
      obtain ⟨j, j1, rfl⟩ := in_small (m := 2) (by decide) c2
      rcases (show j = 0 ∨ j = 1 ∨ j = 2 by omega) with rfl | rfl | rfl
      · rfl
      · show some (some (w (12 + 3 * p.toNatClampNeg))) = some (some (w (11 + 3 * p.toNatClampNeg + 1)))
        rw [show 11 + 3 * p.toNatClampNeg + 1 = 12 + 3 * p.toNatClampNeg by omega]
      · show some (some (w (13 + 3 * p.toNatClampNeg))) = some (some (w (11 + 3 * p.toNatClampNeg + 2)))
        rw [show 11 + 3 * p.toNatClampNeg + 2 = 13 + 3 * p.toNatClampNeg by omega]
theorem x_spouse (h : XI f z xo w lf n k tp ws) (hv : Vld w) (p q : Int32) : fnX9_spouse f xo p q = some (if spoR w p q ≤ 0 then some (spoV w p q) else none) := by
  obtain ⟨-, b, ⟨pi, tm, sr, so, qo, tl, c, hr⟩, -⟩ := h
  unfold fnX9_spouse
  rw [ob_is b, bs, ob_r1 b, bs, c_hasSpouse c hr.1 hv.c, bs]
  by_cases c0 : inI p 0 (w 4 - 1) = 0
  · have e : spoR w p q = 1 := by unfold spoR; rw [if_pos c0]
    rw [if_neg (show ¬ spoR w p q ≤ 0 by rw [e]; decide), if_pos c0]
  · obtain ⟨e1, e2⟩ := spo_of hv c0
    have hk4 := hv.p4 e2
    have hS := c.cq hk4
    have hq := hr.2.1 _ e2
    obtain ⟨q0, q1, q2, q3, q4, q5, q6, q7, q8⟩ := id hq
    rw [if_neg c0, bs, p_r7 c, bs, p_qr c e1 hk4, bs, q_g0 hS, q_g1 hS, q_g2 hS, q_g3 hS, q_g4 hS, q_g5 hS, q_g6 hS, q_g7 hS, q_g8 hS, q0, q1, q2, q3, q4, q5, q6, q7, q8]
    simp only [bs, c_beginOf c hr.1 hS hq]
    by_cases c2 : inI q 0 9 = 0
    · have e : spoR w p q = 1 := by unfold spoR; rw [if_neg c0, if_pos c2]
      rw [if_neg (show ¬ spoR w p q ≤ 0 by rw [e]; decide)]
      have hne : ∀ j : Int32, ¬ inI j 0 9 = 0 → ¬ q = j := fun j hj z => hj (z ▸ c2)
      rw [if_neg (hne 0 (by decide)), if_neg (hne 1 (by decide)), if_neg (hne 2 (by decide)), if_neg (hne 3 (by decide)), if_neg (hne 4 (by decide)), if_neg (hne 5 (by decide)), if_neg (hne 6 (by decide)), if_neg (hne 7 (by decide)), if_neg (hne 8 (by decide)), if_neg (hne 9 (by decide))]
    · have e : spoR w p q = 0 := by unfold spoR; rw [if_neg c0, if_neg c2]
      have hle : spoR w p q ≤ 0 := by rw [e]; decide
      rw [if_pos hle]
      unfold spoV
      rw [if_pos hle]
      obtain ⟨j, j1, rfl⟩ := in_small (m := 9) (by decide) c2
      have hp : ∀ i, 35 + i + 8 * p.toNatClampNeg = 35 + 8 * p.toNatClampNeg + i := fun i => by omega
      rcases (show j = 0 ∨ j = 1 ∨ j = 2 ∨ j = 3 ∨ j = 4 ∨ j = 5 ∨ j = 6 ∨ j = 7 ∨ j = 8 ∨ j = 9 by omega) with rfl | rfl | rfl | rfl | rfl | rfl | rfl | rfl | rfl | rfl
      · rfl
      · show some (some (w (35 + 1 + 8 * p.toNatClampNeg))) = some (some (w (35 + 8 * p.toNatClampNeg + 1))); rw [hp]
      · show some (some (w (35 + 2 + 8 * p.toNatClampNeg))) = some (some (w (35 + 8 * p.toNatClampNeg + 2))); rw [hp]
      · show some (some (w (35 + 3 + 8 * p.toNatClampNeg))) = some (some (w (35 + 8 * p.toNatClampNeg + 3))); rw [hp]
      · show some (some (w (35 + 4 + 8 * p.toNatClampNeg))) = some (some (w (35 + 8 * p.toNatClampNeg + 4))); rw [hp]
      · show some (some (w (35 + 5 + 8 * p.toNatClampNeg))) = some (some (w (35 + 8 * p.toNatClampNeg + 5))); rw [hp]
      · show some (some (w (35 + 6 + 8 * p.toNatClampNeg))) = some (some (w (35 + 8 * p.toNatClampNeg + 6))); rw [hp]
      · show some (some (w (35 + 7 + 8 * p.toNatClampNeg))) = some (some (w (35 + 8 * p.toNatClampNeg + 7))); rw [hp]
      · rfl
      · rfl
theorem LI.bump (h : LI z xo f) (N : Nat) : LI z xo (f.1, f.2.1, N) := h
theorem LI.is9 (h : LI z xo f) : pz_is f xo 8 = some () := by
  obtain ⟨lf, n, k, ws, iv, ia, la, hx, -⟩ := h
  exact ob_is hx.2.1
theorem LI.out (h : LI z xo f) : ∃ ov, f.1 (xo + 292) = some (.inr (1, 1, .inr (.inl ov))) := by
  obtain ⟨lf, n, k, ws, iv, ia, la, hx, hm, -, -, ho⟩ := h
  exact ho
theorem tL_out {ov : Nat → Int64} (h : f.1 (xo + 292) = some (.inr (1, 1, .inr (.inl ov)))) (x : Int64) : pz_tL f (xo + 292) 1 0 x = some (pz_up f (xo + 292) (.inr (1, 1, .inr (.inl (vp_updL ov 0 x))))) := by
  unfold pz_tL; rw [h]; rfl
/-- the answer of the class and that of the model: the law's out holds the class's -/
def XStep (z xo : Nat) (f : pz_H) (ro : Option Int32) (fm : pz_H → Option (Int32 × pz_H)) : Prop := (∀ x, ∃ f', pz_tL f (xo + 292) 1 0 x = some f') ∧ ∀ v f', xP f ro (xo + 292) v f' → ∃ b f2, fm f' = some (b, f2) ∧ fnX10_thrown f2 (xo + 280) = some v ∧ LI z xo f2 ∧ (v = 0 → pz_aL f2 (xo + 292) 1 0 = some b.toInt64)
theorem xstep (h : LI z xo f) {R V : (Nat → Int32) → Int32} {fm : pz_H → Option (Int32 × pz_H)} {ro : Option Int32} (hR : ∀ w, R w = 0 ∨ R w = 1)
    (hro : ∀ iv ia la, HasB f (xo + 280) 12 (MC (xo + 280) iv ia la) → Vld (ia 0) → (∃ lf n k ws, XI f z xo (ia 0) lf n k (ia 4) ws) → ro = if R (ia 0) ≤ 0 then some (V (ia 0)) else none)
    (hfm : ∀ g iv ia la, Vld (ia 0) → fm (MH (xo + 280) iv ia la g) = some (V (ia 0), MH (xo + 280) (va_up iv 0 (R (ia 0))) ia la g)) : XStep z xo f ro fm := by
  obtain ⟨lf, n, k, ws, iv, ia, la, hx, hm, ⟨hv, hca, h14, h4, h15⟩, hws, ⟨ov, ho⟩⟩ := h
  have hr := hro iv ia la hm hv ⟨_, _, _, _, hx⟩
  refine ⟨fun x => ⟨_, tL_out ho x⟩, fun v f' hp => ?_⟩
  rcases hp with ⟨r, hr1, ht, rfl⟩ | ⟨hr1, rfl, N, rfl⟩
  · rw [tL_out ho] at ht
    cases ht
    have hR0 : R (ia 0) = 0 := by
      rcases hR (ia 0) with e | e
      · exact e
      · rw [hr, if_neg (by rw [e]; decide)] at hr1; cases hr1
    rw [hr, if_pos (by rw [hR0]; decide)] at hr1
    cases hr1
    generalize hf1 : pz_up f (xo + 292) (.inr (1, 1, .inr (.inl (vp_updL ov 0 (V (ia 0)).toInt64)))) = f1
    have ha : ∀ a, a ≠ xo + 292 → f1.1 a = f.1 a := fun a ha => by rw [← hf1]; exact up_n ha
    have h2 : f1.2 = f.2 := by rw [← hf1]; rfl
    have ho1 : f1.1 (xo + 292) = some (.inr (1, 1, .inr (.inl (vp_updL ov 0 (V (ia 0)).toInt64)))) := by rw [← hf1]; exact up_s
    have hx1 : XI f1 z xo (ia 0) lf n k (ia 4) ws := hx.cg h2 (fun a q => ha a (by omega))
    have hm1 : HasB f1 (xo + 280) 12 (MC (xo + 280) iv ia la) := hm.cg (fun a q1 q2 => ha a (by omega))
    have e := hfm f1 iv ia la hv
    rw [show MH (xo + 280) iv ia la f1 = f1 from BU_self hm1] at e
    refine ⟨_, _, e, ?_, LI.up0 hx1 ⟨_, ho1⟩ hv hca h14 h4 h15 hws _, fun _ => ?_⟩
    · unfold fnX10_thrown
      rw [mh_is, bs, mh_g0, bs, up_s, hR0]
    · unfold pz_aL MH
      rw [BU_ne (by omega), ho1]
      rfl
  · have hR1 : R (ia 0) = 1 := by
      rcases hR (ia 0) with e | e
      · rw [hr, if_pos (by rw [e]; decide)] at hr1; cases hr1
      · exact e
    have hx1 : XI (f.1, f.2.1, N) z xo (ia 0) lf n k (ia 4) ws := hx
    have hm1 : HasB (f.1, f.2.1, N) (xo + 280) 12 (MC (xo + 280) iv ia la) := hm
    have e := hfm (f.1, f.2.1, N) iv ia la hv
    rw [show MH (xo + 280) iv ia la (f.1, f.2.1, N) = (f.1, f.2.1, N) from BU_self hm1] at e
    refine ⟨_, _, e, ?_, LI.up0 hx1 ⟨ov, ho⟩ hv hca h14 h4 h15 hws _, fun q => absurd q (by decide)⟩
    unfold fnX10_thrown
    rw [mh_is, bs, mh_g0, bs, up_s, hR1]
theorem spnR_01 (w : Nat → Int32) (p q : Int32) : spnR w p q = 0 ∨ spnR w p q = 1 := by
  unfold spnR; (repeat' split) <;> simp
theorem spoR_01 (w : Nat → Int32) (p q : Int32) : spoR w p q = 0 ∨ spoR w p q = 1 := by
  unfold spoR; (repeat' split) <;> simp
theorem s_span (h : LI z xo f) (p q : Int32) : ∃ ro, fnX9_span f xo p q = some ro ∧ XStep z xo f ro (fun g => fnX10_span g (xo + 280) p q) := by
  obtain ⟨lf, n, k, ws, iv, ia, la, hx, hm, ⟨hv, hca, h14, h4, h15⟩, hws, ho⟩ := id h
  refine ⟨_, x_span hx hv p q, xstep h (R := fun w => spnR w p q) (V := fun w => spnV w p q) (fun w => spnR_01 w p q) (fun iv' ia' la' hm' hv' ⟨lf', n', k', ws', hx'⟩ => ?_) (fun g iv ia la hv => m_span hv p q)⟩
  exact Option.some.inj ((x_span hx hv p q).symm.trans (x_span hx' hv' p q))
theorem s_spouse (h : LI z xo f) (p q : Int32) : ∃ ro, fnX9_spouse f xo p q = some ro ∧ XStep z xo f ro (fun g => fnX10_spouse g (xo + 280) p q) := by
  obtain ⟨lf, n, k, ws, iv, ia, la, hx, hm, ⟨hv, hca, h14, h4, h15⟩, hws, ho⟩ := id h
  refine ⟨_, x_spouse hx hv p q, xstep h (R := fun w => spoR w p q) (V := fun w => spoV w p q) (fun w => spoR_01 w p q) (fun iv' ia' la' hm' hv' ⟨lf', n', k', ws', hx'⟩ => ?_) (fun g iv ia la hv => m_spouse hv p q)⟩
  exact Option.some.inj ((x_spouse hx hv p q).symm.trans (x_spouse hx' hv' p q))
end XSP
