/-! ===== the class's face: what is paid and what it is worth ===== -/
section PUK
variable {f f' : pz_H} {z xo n k : Nat} {w tp : Nat → Int32} {lf : Int32} {ws : Nat → Nat → Int32}
theorem XI.kk (h : XI f z xo w lf n k tp ws) (ra : Nat → Nat → Int32) (ow : Nat → Int64) (ch : Nat → Int32) : XI (RB (xo + 43) ra ow ch f) z xo w lf n k tp ws ∧ OuB f (RB (xo + 43) ra ow ch f) xo 280 := ⟨h.rk OuB.bu ⟨ra, ow, ch, RB_rkf⟩, OuB.bu.wd (by omega) (by omega)⟩
theorem XI.ss (h : XI f z xo w lf n k tp ws) : XI f z xo w lf n k tp ws ∧ OuB f f xo 280 := ⟨h, OuB.rf⟩
theorem x_whole (h : XI f z xo w lf n k tp ws) (hv : Vld w) (p : Int32) : ∃ f1, fnX9_whole f xo p = some (whlV w p, f1) ∧ XI f1 z xo w lf n k tp ws ∧ OuB f f1 xo 280 := by
  obtain ⟨-, b, ⟨pi, tm, sr, so, qo, tl, c, hr⟩, -, -, -, ⟨ra, ow, ch, hK⟩, -⟩ := id h
  unfold fnX9_whole whlV
  rw [ob_is b, bs, c_isMonth, bs]
  by_cases c1 : inI p 0 1799 = 0
  · rw [if_pos c1, if_pos c1]; exact ⟨f, rfl, h.ss⟩
  obtain ⟨q1, q2⟩ := mon_of c1
  obtain ⟨r0, e1, e2⟩ := c_fillW (ro := xo + 43) (ra := ra) (ow := ow) (ch := ch) c (by omega) hr.1 hv
  have hk := h.kk (va_up ra 0 r0) ow ch
  rw [hK.rb] at e1
  rw [if_neg c1, if_neg c1, ob_r6 b, bs, ob_r1 b, bs, e1, bs, ob_r6 hk.1.2.1, bs, r_r0 RB_rkf, bs, r_i0 RB_rkf q1 q2, bs, up_s, e2 _ q2]
  exact ⟨_, rfl, hk⟩
theorem x_discount (h : XI f z xo w lf n k tp ws) (hv : Vld w) (p : Int32) : ∃ f1, fnX9_discount f xo p = some (dscV w p, f1) ∧ XI f1 z xo w lf n k tp ws ∧ OuB f f1 xo 280 := by
  obtain ⟨-, b, ⟨pi, tm, sr, so, qo, tl, c, hr⟩, -, -, -, ⟨ra, ow, ch, hK⟩, -⟩ := id h
  unfold fnX9_discount dscV
  rw [ob_is b, bs, c_isMonth, bs]
  by_cases c1 : inI p 0 1799 = 0
  · rw [if_pos c1, if_pos c1]; exact ⟨f, rfl, h.ss⟩
  obtain ⟨q1, q2⟩ := mon_of c1
  obtain ⟨r0, e1, e2⟩ := c_fillD (ro := xo + 43) (ra := ra) (ow := ow) (ch := ch) c (by omega) hr.1 hv
  have hk := h.kk (va_up ra 1 r0) ow ch
  rw [hK.rb] at e1
  rw [if_neg c1, if_neg c1, ob_r6 b, bs, ob_r1 b, bs, e1, bs, ob_r6 hk.1.2.1, bs, r_r1 RB_rkf, bs, r_i1 RB_rkf q1 q2, bs, up_s, e2 _ q2]
  exact ⟨_, rfl, hk⟩
theorem x_isPaid (h : XI f z xo w lf n k tp ws) (hv : Vld w) (p : Int32) : fnX9_isPaid f xo p = some (if p = 11 then 1 else whoI w p) := by
  obtain ⟨-, b, ⟨pi, tm, sr, so, qo, tl, c, hr⟩, -⟩ := id h
  unfold fnX9_isPaid fX9_isPaid_23 fX9_isPaid_28 whoI
  rw [ob_is b, bs, pb1, pb0]
  by_cases c1 : p = 10
  · rw [if_pos c1, if_pos c1]; split <;> rfl
  rw [if_neg c1, if_neg c1]
  by_cases c2 : p = 11
  · rw [if_pos c2, if_pos c2]
  rw [if_neg c2, if_neg c2, ob_r1 b, bs, c_hasSpouse c hr.1 hv.c, bs]
  by_cases c3 : inI p 0 (w 4 - 1) = 0
  · rw [if_pos c3, c3]
  · rw [if_neg c3, inI_1 (fun z => c3 (inI_0.mpr (Or.inl z))) (fun z => c3 (inI_0.mpr (Or.inr z)))]
theorem x_paid (h : XI f z xo w lf n k tp ws) (hv : Vld w) (q p : Int32) : ∃ f1, fnX9_paid f xo q p = some (paidV w q p, f1) ∧ XI f1 z xo w lf n k tp ws ∧ OuB f f1 xo 280 := by
  obtain ⟨-, b, ⟨pi, tm, sr, so, qo, tl, c, hr⟩, -, -, -, ⟨ra, ow, ch, hK⟩, -⟩ := id h
  unfold fnX9_paid fX9_paid_15 paidV
  rw [ob_is b, bs, c_isMonth, bs, x_isPaid h hv, bs]
  by_cases c1 : inI q 0 1799 = 0
  · rw [if_pos c1, if_pos c1]; exact ⟨f, rfl, h.ss⟩
  obtain ⟨q1, q2⟩ := mon_of c1
  rw [if_neg c1, if_neg c1]
  have go : ¬ whoI w p = 0 ∨ p = 11 → ∃ f1, ((pz_gR f xo 8 6).bind fun v3 => (pz_gR f xo 8 1).bind fun v4 => (fnX5_prepare f v3 v4).bind fun x5 => (pz_gR x5 xo 8 6).bind fun v6 => (pz_gR x5 xo 8 1).bind fun v7 => (fnX5_paidTo x5 v6 v7 q p).bind fun x8 => some (x8, x5)) = some (pdW w p.toNatClampNeg q.toNatClampNeg, f1) ∧ XI f1 z xo w lf n k tp ws ∧ OuB f f1 xo 280 := by
    intro hw
    obtain ⟨w1, w2⟩ := who_of hv hw
    obtain ⟨ra', ow', e1, e2, e3⟩ := c_prep (ro := xo + 43) (ra := ra) (ow := ow) (ch := ch) c (by omega) hr.1 hr.2.2.1 hv hr.2.1
    have hk := h.kk ra' ow' ch
    rw [hK.rb] at e1
    have key := c_paidTo (c.rb (by omega)) RB_rkf hr.1 hv e2 hr.2.1 e3 q2 w1 w2 (ro := xo + 43) (ra := ra') (ow := ow') (ch := ch)
    rw [← q1] at key
    rw [ob_r6 b, bs, ob_r1 b, bs, e1, bs, ob_r6 hk.1.2.1, bs, ob_r1 hk.1.2.1, bs, key, bs]
    exact ⟨_, rfl, hk⟩
  by_cases c2 : p = 11
  · have := go (Or.inr c2)
    rw [if_pos c2, if_neg one_0]
    by_cases c3 : whoI w p = 0
    · rw [if_pos c3, if_pos c2]; exact this
    · rw [if_neg c3]; exact this
  · rw [if_neg c2]
    by_cases c3 : whoI w p = 0
    · rw [if_pos c3, if_pos c3, if_neg c2]; exact ⟨f, rfl, h.ss⟩
    · rw [if_neg c3, if_neg c3]; exact go (Or.inl c3)
theorem x_sum (h : XI f z xo w lf n k tp ws) (hv : Vld w) (p s t : Int32) : ∃ f1, fnX9_sum f xo p s t = some (sumV w p s t, f1) ∧ XI f1 z xo w lf n k tp ws ∧ OuB f f1 xo 280 := by
  obtain ⟨-, b, ⟨pi, tm, sr, so, qo, tl, c, hr⟩, -, -, -, ⟨ra, ow, ch, hK⟩, -⟩ := id h
  unfold fnX9_sum fX9_sum_27 sumV
  rw [ob_is b, bs, c_isMonth, bs, c_isMonth, bs, x_isPaid h hv, bs]
  have no : ∃ f1, some ((-1000000000000000 : Int64), f) = some (-1000000000000000, f1) ∧ XI f1 z xo w lf n k tp ws ∧ OuB f f1 xo 280 := ⟨f, rfl, h.ss⟩
  by_cases c1 : inI s 0 1799 = 0
  · rw [if_pos c1, if_pos c1]; split <;> exact no
  rw [if_neg c1, if_neg c1]
  by_cases c2 : inI t 0 1799 = 0
  · rw [if_pos c2, if_pos c2]; split <;> exact no
  rw [if_neg c2, if_neg c2]
  obtain ⟨s1, s2⟩ := mon_of c1
  obtain ⟨t1, t2⟩ := mon_of c2
  have hst : s ≤ t ↔ s.toNatClampNeg ≤ t.toNatClampNeg := by
    conv => lhs; rw [s1, t1]
    exact nI_leI (by omega) (by omega)
  by_cases c3 : s ≤ t
  · rw [if_neg (show ¬ t < s by rw [i32_le] at c3; rw [i32_lt]; omega), if_pos c3]
    by_cases c4 : whoI w p = 0 ∧ ¬ p = 11
    · rw [if_pos c4, if_pos (show (if p = 11 then 1 else whoI w p) = 0 by rw [if_neg c4.2]; exact c4.1)]; exact no
    · have hw : ¬ whoI w p = 0 ∨ p = 11 := by
        by_cases q : p = 11
        · exact Or.inr q
        · exact Or.inl (fun x => c4 ⟨x, q⟩)
      rw [if_neg c4, if_neg (show ¬ (if p = 11 then 1 else whoI w p) = 0 by
        rcases hw with q | q
        · split
          · decide
          · exact q
        · rw [if_pos q]; decide)]
      obtain ⟨w1, w2⟩ := who_of hv hw
      obtain ⟨ra', ow', e1, e2, e3⟩ := c_prep (ro := xo + 43) (ra := ra) (ow := ow) (ch := ch) c (by omega) hr.1 hr.2.2.1 hv hr.2.1
      have hk := h.kk ra' ow' ch
      rw [hK.rb] at e1
      have key := c_within (c.rb (by omega)) RB_rkf hr.1 hv e2 hr.2.1 e3 w1 w2 s1 t1 (hst.mp c3) (by omega) (ro := xo + 43) (ra := ra') (ow := ow') (ch := ch)
      rw [ob_r6 b, bs, ob_r1 b, bs, e1, bs, ob_r6 hk.1.2.1, bs, ob_r1 hk.1.2.1, bs, key, bs]
      exact ⟨_, rfl, hk⟩
  · rw [if_pos (show t < s by rw [i32_le] at c3; rw [i32_lt]; omega), if_neg c3]; split <;> exact no
theorem x_rich_loop (h : XI f z xo w lf n k tp ws) (hv : Vld w) {ra : Nat → Nat → Int32} {ow : Nat → Int64} {ch : Nat → Int32} (hK : RkF f (xo + 43) ra ow ch) (hW : RwW w ra) (hO : OwR w ow) {m : Nat} (hm : m < 1800) : ∀ (N i : Nat), i ≤ cP w → cP w - i < N → fX9_richest_42 N f xo (nI m) (rcL w m i).1 (rcL w m i).2 (nI i) = some ((rcL w m (cP w)).1, f) := by
  obtain ⟨-, b, ⟨pi, tm, sr, so, qo, tl, c, hr⟩, -⟩ := id h
  have h4 := hv.1.2.1
  have h8 : pi 8 = nI (cP w) := by rw [hr.1.1.2.2.2.2.2.1]; exact h4.1
  intro N
  induction N with
  | zero => intro i _ h; omega
  | succ N ih =>
    intro i hi hN
    show fX9_richest_42b _ _ _ _ _ _ _ = _
    unfold fX9_richest_42b fX9_richest_84
    rw [ob_r1 b, bs, p_g8 c, bs, h8]
    by_cases e : i = cP w
    · rw [e, if_pos (Int32.le_refl _)]
    · have hlt : i < cP w := by omega
      have key := c_within c hK hr.1 hv hW hr.2.1 hO (who := i) (p := nI i) rfl (Or.inr (Or.inr hlt)) (a := 0) (b := m) (pa := 0) (pb := nI m) rfl rfl (by omega) (by omega)
      rw [if_neg (by rw [nI_leI (by omega) (by omega)]; omega), ob_r6 b, bs, bs, key, bs, Nat.sub_zero, nI_1, ← ih (i + 1) (by omega) (by omega)]
      by_cases q : smA (pdW w i) 0 m ≤ (rcL w m i).2
      · rw [if_pos (lg_le.mpr q), rcL, if_pos q, if_pos q]
      · rw [if_neg (fun x => q (lg_le.mp x)), rcL, if_neg q, if_neg q]
theorem x_richest (h : XI f z xo w lf n k tp ws) (hv : Vld w) (q : Int32) : ∃ f1, fnX9_richest f xo q = some (richV w q, f1) ∧ XI f1 z xo w lf n k tp ws ∧ OuB f f1 xo 280 := by
  obtain ⟨-, b, ⟨pi, tm, sr, so, qo, tl, c, hr⟩, -, -, -, ⟨ra, ow, ch, hK⟩, -⟩ := id h
  unfold fnX9_richest richV
  rw [ob_is b, bs, c_isMonth, bs]
  by_cases c1 : inI q 0 1799 = 0
  · rw [if_pos c1, if_pos c1]; exact ⟨f, rfl, h.ss⟩
  obtain ⟨q1, q2⟩ := mon_of c1
  obtain ⟨ra', ow', e1, e2, e3⟩ := c_prep (ro := xo + 43) (ra := ra) (ow := ow) (ch := ch) c (by omega) hr.1 hr.2.2.1 hv hr.2.1
  have hk := h.kk ra' ow' ch
  rw [hK.rb] at e1
  have key := c_within (c.rb (by omega)) RB_rkf hr.1 hv e2 hr.2.1 e3 (who := 10) (p := 10) rfl (Or.inl rfl) (a := 0) (pa := 0) rfl q1 (by omega) (by omega) (ro := xo + 43) (ra := ra') (ow := ow') (ch := ch)
  rw [if_neg c1, if_neg c1, ob_r6 b, bs, ob_r1 b, bs, e1, bs, ob_r6 hk.1.2.1, bs, ob_r1 hk.1.2.1, bs, key, bs, Nat.sub_zero]
  have fin := x_rich_loop hk.1 hv RB_rkf e2 e3 q2 pz_F 0 (by omega) (by have := hv.1.2.1.2; unfold pz_F; omega)
  rw [← q1] at fin
  exact ⟨_, fin, hk⟩
theorem x_annuity (h : XI f z xo w lf n k tp ws) (hv : Vld w) (p q s : Int32) : ∃ f1, fnX9_annuity f xo p q s = some (annV w p q s, f1) ∧ XI f1 z xo w lf n k tp ws ∧ OuB f f1 xo 280 := by
  obtain ⟨-, b, ⟨pi, tm, sr, so, qo, tl, c, hr⟩, -, -, -, ⟨ra, ow, ch, hK⟩, -⟩ := id h
  have no : ∃ f1, some ((-1 : Int64), f) = some (-1, f1) ∧ XI f1 z xo w lf n k tp ws ∧ OuB f f1 xo 280 := ⟨f, rfl, h.ss⟩
  unfold fnX9_annuity fX9_annuity_19 annV
  rw [ob_is b, bs, c_isMonth, bs, c_isMonth, bs, ob_r1 b, bs, c_hasSpouse c hr.1 hv.c, bs]
  by_cases c1 : inI q 0 1799 = 0
  · rw [if_pos c1, if_pos c1]; split <;> exact no
  rw [if_neg c1, if_neg c1]
  by_cases c2 : inI s 0 1799 = 0
  · rw [if_pos c2, if_pos c2]; split <;> exact no
  rw [if_neg c2, if_neg c2]
  obtain ⟨s1, s2⟩ := mon_of c1
  obtain ⟨t1, t2⟩ := mon_of c2
  have hst : q ≤ s ↔ q.toNatClampNeg ≤ s.toNatClampNeg := by
    conv => lhs; rw [s1, t1]
    exact nI_leI (by omega) (by omega)
  by_cases c3 : s < q
  · rw [if_pos c3, if_neg (show ¬ q ≤ s by rw [i32_lt] at c3; rw [i32_le]; omega)]; split <;> exact no
  have c3' : q ≤ s := by rw [i32_lt] at c3; rw [i32_le]; omega
  rw [if_neg c3, if_pos c3']
  have go : ¬ whoI w p = 0 → ∃ f1, fX9_annuity_44 f xo p q s = some (if bornW w p ≤ q then ann w (bornW w p) q.toNatClampNeg s.toNatClampNeg else -1, f1) ∧ XI f1 z xo w lf n k tp ws ∧ OuB f f1 xo 280 := by
    intro hw
    have hb0 := bornW_0 hv hw
    have g2 : ∃ f1, fX9_annuity_72 f xo q s (bornW w p) = some (if bornW w p ≤ q then ann w (bornW w p) q.toNatClampNeg s.toNatClampNeg else -1, f1) ∧ XI f1 z xo w lf n k tp ws ∧ OuB f f1 xo 280 := by
      unfold fX9_annuity_72 fX9_annuity_101
      by_cases c4 : bornW w p ≤ q
      · have hbt : (bornW w p).toInt ≤ q.toNatClampNeg := by
          rw [i32_le] at c4
          have : q.toInt = q.toNatClampNeg := by conv => lhs; rw [s1]
                                                 exact nI_toInt (by omega)
          omega
        obtain ⟨ra', e1, -⟩ := c_ann (ro := xo + 43) (ra := ra) (ow := ow) (ch := ch) c (by omega) hr.1 hr.2.2.1 hv hb0 hbt s1 s2 t1 (hst.mp c3') t2
        rw [hK.rb] at e1
        rw [if_pos c4, if_pos c4, ob_r6 b, bs, ob_r1 b, bs, e1, bs]
        exact ⟨_, rfl, h.kk ra' ow ch⟩
      · rw [if_neg c4, if_neg c4]; exact no
    unfold fX9_annuity_44
    unfold bornW at g2 ⊢
    by_cases c5 : p = 10
    · rw [if_pos c5] at g2 ⊢
      rw [if_pos c5, ob_r1 b, bs, p_g0 c, bs, hr.1.1.1]; exact g2
    · rw [if_neg c5] at g2 ⊢
      unfold whoI at hw
      rw [if_neg c5] at hw
      obtain ⟨k1, k2⟩ := spo_of hv hw
      have hk4 := hv.p4 k2
      rw [if_neg c5, ob_r1 b, bs, p_r7 c, bs, p_qr c k1 hk4, bs, q_g0 (c.cq hk4), bs, (hr.2.1 _ k2).1]; exact g2
  by_cases c6 : p = 10
  · have hw : ¬ whoI w p = 0 := by unfold whoI; rw [if_pos c6]; decide
    rw [if_pos c6, if_neg hw]; exact go hw
  · have ew : whoI w p = inI p 0 (w 4 - 1) := by unfold whoI; rw [if_neg c6]
    rw [if_neg c6, ew]
    by_cases c7 : inI p 0 (w 4 - 1) = 0
    · rw [if_pos c7, if_pos c7]; exact no
    · rw [if_neg c7, if_neg c7]; exact go (by rw [ew]; exact c7)
end PUK
