/-! ===== the class's face: set, undo, tell ===== -/
theorem telL_c {tp : Nat → Int32} {n : Nat} : ∀ (r a : Nat) (w : Nat → Int32) (c : Nat), c ≤ (telL tp n r a w c).2.2 ∧ ((telL tp n r a w c).2.2 = c → (telL tp n r a w c).2.1 = w)
  | 0, a, w, c => ⟨Nat.le_refl _, fun _ => rfl⟩
  | r + 1, a, w, c => by
    unfold telL
    by_cases d1 : hrV tp n (nxA tp n a) = -1
    · rw [if_pos d1]; exact ⟨Nat.le_refl _, fun _ => rfl⟩
    rw [if_neg d1]
    by_cases d2 : (stmF tp n (nxA tp n a) w).1 = 0
    · rw [if_pos d2]
      obtain ⟨h1, h2⟩ := telL_c (tp := tp) (n := n) r (stmF tp n (nxA tp n a) w).2.1 (stmF tp n (nxA tp n a) w).2.2 (c + 1)
      exact ⟨by omega, fun q => by omega⟩
    · rw [if_neg d2]; exact ⟨Nat.le_succ _, fun _ => rfl⟩
section PUY
variable {f f' : pz_H} {z xo n k : Nat} {w tp : Nat → Int32} {lf : Int32} {ws : Nat → Nat → Int32}
theorem x_set (h : XI f z xo w lf n k tp ws) (hv : Vld w) (p q v : Int32) : (plc w p q v = -1 ∧ fnX9_set f xo p q v = some (0, f)) ∨ (¬ plc w p q v = -1 ∧ w (plc w p q v).toNatClampNeg = v ∧ fnX9_set f xo p q v = some (0, f)) ∨ (¬ plc w p q v = -1 ∧ ¬ w (plc w p q v).toNatClampNeg = v ∧ ∃ f1, fnX9_set f xo p q v = some (1, f1) ∧ XI f1 z xo (upd w (plc w p q v).toNatClampNeg v) lf n (kpN k) tp (kpW k ws w) ∧ OuB f f1 xo 280) := by
  obtain ⟨⟨hz, hs, -, -⟩, b, ⟨pi, tm, sr, so, qo, tl, c, hr⟩, -⟩ := id h
  unfold fnX9_set fX9_set_26
  rw [ob_is b, bs, ob_r1 b, bs, c_canChange c hs hr hv, bs, pb0, bs]
  by_cases c1 : plc w p q v = -1
  · left; rw [if_pos c1, if_pos rfl]; exact ⟨c1, rfl⟩
  right
  rw [if_neg c1, if_neg one_0, bs, c_valueOf c hr hv c1, bs]
  by_cases c2 : w (plc w p q v).toNatClampNeg = v
  · left; rw [if_pos c2]; exact ⟨c1, c2, rfl⟩
  right
  refine ⟨c1, c2, ?_⟩
  obtain ⟨f1, e1, e2, e3, -⟩ := x_keep h hv.c
  obtain ⟨-, b1, ⟨pi1, tm1, sr1, so1, qo1, tl1, d, hr1⟩, -⟩ := id e2
  obtain ⟨pi2, tm2, qo2, e4, e5⟩ := c_change d hr1 hv c1
  rw [if_neg c2, e1, bs, ob_r1 b1, bs, e4, bs, pb1, bs]
  exact ⟨_, rfl, e2.pl OuB.bu ⟨pi2, tm2, sr1, so1, qo2, tl1, PB_plf, e5⟩, e3.tr (OuB.bu.wd (by omega) (by omega))⟩
theorem x_undo (h : XI f z xo w lf n k tp ws) (hw : ∀ i, i < k → Cnt (ws i)) : (k = 0 ∧ fnX9_undo f xo = some (-1, f)) ∨ (0 < k ∧ ∃ f1, fnX9_undo f xo = some (nI (k - 1), f1) ∧ XI f1 z xo (ws (k - 1)) lf n (k - 1) tp ws ∧ OuB f f1 xo 280) := by
  obtain ⟨⟨hz, hs, -, h12⟩, b, -⟩ := id h
  unfold fnX9_undo
  rw [ob_is b, bs, ob_g4 b, bs]
  by_cases c : k = 0
  · left; rw [if_pos (by rw [c]; rfl)]; exact ⟨c, rfl⟩
  right; refine ⟨by omega, ?_⟩
  have h1 : XI (OB xo lf (nI (k - 1)) f) z xo w lf n (k - 1) tp ws := h.ob OuB.bu OB_at (by omega) (fun _ _ => rfl)
  have hP : IsP (OB xo lf (nI (k - 1)) f) (xo + 52 + 19 * 0) (ws 0) → True := fun _ => trivial
  obtain ⟨-, -, -, -, ⟨pr, p1, p2, p3, p4, p5⟩, -⟩ := id h
  have hpk := p1 (k - 1) (by omega)
  have hsrc : IsP (OB xo lf (nI (k - 1)) f) (xo + 52 + 19 * pr (k - 1)) (ws (k - 1)) := (p5 (k - 1) (by omega)).cg (OuB.bu.sm (by omega))
  obtain ⟨pi1, tm1, sr1, so1, qo1, tl1, d1, hr1⟩ := hsrc
  obtain ⟨-, b1, ⟨pi, tm, sr, so, qo, tl, d, hr⟩, -⟩ := id h1
  obtain ⟨pi', tm', so', qo', tl', e1, e2⟩ := c_cpPlan d d1 (by omega) hr.1.2.2.1 hr.2.2.2 hr1 (hw (k - 1) (by omega))
  have b2 : (PB (xo + 1) pi' tm' sr so' qo' tl' (OB xo lf (nI (k - 1)) f)).1 xo = ObC xo lf (nI (k - 1)) := by unfold PB; rw [BU_ne (by omega)]; exact b1
  have a1 : (OB xo lf (nI (k - 1)) f).1 (xo + 39) = PaC xo pr := by rw [OB_ne (by omega)]; exact p3
  rw [if_neg (nI_ne0 (by omega) (by omega)), bs, pred_nI (by omega), ob_w4 b, bs, ob_r1 b1, bs, ob_r3 b1, bs, ob_g4 b1, bs, ab_r a1 rfl (by omega), bs, e1, bs, ob_g4 b2, bs]
  exact ⟨_, rfl, h1.pl OuB.bu ⟨pi', tm', sr, so', qo', tl', PB_plf, e2⟩, OuB.tr (f' := OB xo lf (nI (k - 1)) f) (OuB.bu.wd (by omega) (by omega)) (OuB.bu.wd (by omega) (by omega))⟩
theorem x_tell (h : XI f z xo w lf n k tp ws) (hv : Vld w) : ∃ f1, fnX9_tell f xo = some (if (telT tp n w).1 = 0 then nI (telT tp n w).2.2 else -1, f1) ∧ OuB f f1 xo 280 ∧ (((telT tp n w).1 = 0 ∧ 0 < (telT tp n w).2.2 ∧ XI f1 z xo (telT tp n w).2.1 (telT tp n w).1 0 (kpN k) tp (kpW k ws w)) ∨ (¬ ((telT tp n w).1 = 0 ∧ 0 < (telT tp n w).2.2) ∧ XI f1 z xo w (telT tp n w).1 0 k tp ws)) := by
  obtain ⟨⟨hz, hs, h4, h12⟩, b, ⟨pi, tm, sr, so, qo, tl, d, hr⟩, ⟨pi0, tm0, sr0, so0, qo0, tl0, d0, s8, inj⟩, -, ⟨rv, bt, vs, g, g1, g2⟩, -⟩ := id h
  have hT := telL_ok (tp := tp) h4 (n + 1) 0 w 0 hv (by omega) (by omega)
  have hT1 : Vld (telT tp n w).2.1 := hT.1
  have hT2 : (telT tp n w).2.2 ≤ n + 1 := hT.2
  unfold fnX9_tell fX9_tell_70
  obtain ⟨pi1, tm1, so1, qo1, tl1, e1, e2⟩ := c_cpPlan d0 d (by omega) s8 inj hr hv.c
  have xi1 : XI (PB (xo + 20) pi1 tm1 sr0 so1 qo1 tl1 f) z xo w lf n k tp ws := h.tr OuB.bu ⟨pi1, tm1, sr0, so1, qo1, tl1, PB_plf, s8, inj⟩
  have b1 := xi1.2.1
  have hE : HasB (PB (xo + 20) pi1 tm1 sr0 so1 qo1 tl1 f) (xo + 40) 3 (EC (xo + 40) rv bt vs) := g.cg (OuB.bu.sm (by omega))
  have eb : EB (xo + 40) rv bt vs (PB (xo + 20) pi1 tm1 sr0 so1 qo1 tl1 f) = PB (xo + 20) pi1 tm1 sr0 so1 qo1 tl1 f := BU_self hE
  obtain ⟨rv2, vs2, pi2, tm2, sr2, so2, qo2, tl2, e3, e4, e5, e6⟩ := c_readAll (F := PB (xo + 20) pi1 tm1 sr0 so1 qo1 tl1 f) (eo := xo + 40) (po := xo + 20) (vs := vs) h4 g2 xi1.1.2.1 (by omega) (by omega) (by omega) hv PB_plf e2 g1
  rw [eb, PB_PB] at e3
  -- the heap behind the reading
  have xi2 : XI (PB (xo + 20) pi2 tm2 sr2 so2 qo2 tl2 f) z xo w lf n k tp ws := h.tr OuB.bu ⟨pi2, tm2, sr2, so2, qo2, tl2, PB_plf, e6.1.2.2.1, e6.2.2.2⟩
  have xi3 : XI (EB (xo + 40) (va_up rv2 1 0) bt vs2 (PB (xo + 20) pi2 tm2 sr2 so2 qo2 tl2 f)) z xo w lf 0 k tp ws := xi2.rd OuB.bu (by omega) ⟨_, bt, vs2, fun o ho => BU_at ho, up_s, fun j hj => by omega⟩
  have b2 : (EB (xo + 40) rv2 bt vs2 (PB (xo + 20) pi2 tm2 sr2 so2 qo2 tl2 f)).1 xo = ObC xo lf (nI k) := by unfold EB; rw [BU_ne (by omega)]; exact xi2.2.1
  have xi4 : XI (OB xo (telT tp n w).1 (nI k) (EB (xo + 40) (va_up rv2 1 0) bt vs2 (PB (xo + 20) pi2 tm2 sr2 so2 qo2 tl2 f))) z xo w (telT tp n w).1 0 k tp ws := xi3.ob OuB.bu OB_at (Nat.le_refl _) (fun _ _ => rfl)
  have o4 : OuB f (OB xo (telT tp n w).1 (nI k) (EB (xo + 40) (va_up rv2 1 0) bt vs2 (PB (xo + 20) pi2 tm2 sr2 so2 qo2 tl2 f))) xo 280 := ((OuB.bu.wd (by omega) (by omega)).tr (f' := PB (xo + 20) pi2 tm2 sr2 so2 qo2 tl2 f) (OuB.bu.wd (by omega) (by omega))).tr (f' := EB (xo + 40) (va_up rv2 1 0) bt vs2 (PB (xo + 20) pi2 tm2 sr2 so2 qo2 tl2 f)) (OuB.bu.wd (by omega) (by omega))
  have tr4 : IsP (OB xo (telT tp n w).1 (nI k) (EB (xo + 40) (va_up rv2 1 0) bt vs2 (PB (xo + 20) pi2 tm2 sr2 so2 qo2 tl2 f))) (xo + 20) (telT tp n w).2.1 := ⟨pi2, tm2, sr2, so2, qo2, tl2, HasB.cg (f := PB (xo + 20) pi2 tm2 sr2 so2 qo2 tl2 f) PB_plf (fun a x y => by rw [OB_ne (by omega)]; unfold EB; rw [BU_ne (by omega)]), e6⟩
  rw [ob_is b, bs, ob_r2 b, bs, ob_r1 b, bs, e1, bs, ob_r5 b1, bs, ob_r2 b1, bs, e3, bs]
  dsimp only
  rw [ob_r5 b2, bs, e_w1, bs, ob_r5 xi3.2.1, bs, e_g7, bs, up_n (show (7 : Nat) ≠ 1 by decide), e5, ob_w0 xi3.2.1, bs, ob_g0 xi4.2.1, bs]
  generalize OB xo (telT tp n w).1 (nI k) (EB (xo + 40) (va_up rv2 1 0) bt vs2 (PB (xo + 20) pi2 tm2 sr2 so2 qo2 tl2 f)) = f4 at *
  by_cases c1 : (telT tp n w).1 = 0
  · rw [if_pos c1, if_pos c1]
    by_cases c2 : (telT tp n w).2.2 = 0
    · rw [if_pos (show nI (telT tp n w).2.2 ≤ 0 by rw [c2]; decide)]
      exact ⟨f4, rfl, o4, Or.inr ⟨fun q => by omega, xi4⟩⟩
    · rw [if_neg (nI_nle (by omega) (by omega))]
      obtain ⟨f5, k1, k2, k3, k4⟩ := x_keep xi4 hv.c
      obtain ⟨-, b5, ⟨pi3, tm3, sr3, so3, qo3, tl3, d3, hr3⟩, -⟩ := id k2
      obtain ⟨pi4, tm4, sr4, so4, qo4, tl4, d4, hr4⟩ := tr4.cg k4
      obtain ⟨pi6, tm6, so6, qo6, tl6, m1, m2⟩ := c_cpPlan d3 d4 (by omega) hr3.1.2.2.1 hr3.2.2.2 hr4 hT1.c
      rw [k1, bs, ob_r1 b5, bs, ob_r2 b5, bs, m1, bs]
      exact ⟨_, rfl, (o4.tr k3).tr (OuB.bu.wd (by omega) (by omega)), Or.inl ⟨c1, by omega, k2.pl OuB.bu ⟨pi6, tm6, sr3, so6, qo6, tl6, PB_plf, m2⟩⟩⟩
  · rw [if_neg c1, if_neg c1]
    exact ⟨f4, rfl, o4, Or.inr ⟨fun q => c1 q.1, xi4⟩⟩
end PUY
