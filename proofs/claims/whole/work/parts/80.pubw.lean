/-! ===== the class's face: worths, what happens ===== -/
section PUW
variable {f f' : pz_H} {z xo n k : Nat} {w tp : Nat → Int32} {lf : Int32} {ws : Nat → Nat → Int32}
theorem sp_10 {w : Nat → Int32} (hv : Vld w) {p : Int32} (h : ¬ inI p 0 (w 4 - 1) = 0) : ¬ p = 10 := by
  intro e
  obtain ⟨k1, k2⟩ := spo_of hv h
  have := hv.p4 k2
  rw [e] at this
  exact absurd this (by decide)
theorem ret_in {w : Nat → Int32} (hv : Vld w) (h1 : ¬ w 1 = -1) : ¬ inI (w 1) 0 1799 = 0 ∧ w 1 = nI (rT w) ∧ rT w < 1800 := by
  obtain ⟨-, h0, hr, -⟩ := id hv
  have h := hr.resolve_left h1
  have x : (1799 : Int32).toInt = 1799 := rfl
  have hh : ¬ inI (w 1) 0 1799 = 0 := by
    rw [inI_0, i32_lt, i32_lt, z32]; omega
  exact ⟨hh, mon_of hh⟩
theorem hw_ret {w : Nat → Int32} (hv : Vld w) {p : Int32} (h : ¬ inI p 0 (w 4 - 1) = 0) : hwI w p (w 1) = if w 1 = -1 then 0 else if w 1 < w 0 then 0 else if w 1 < w (35 + 8 * p.toNatClampNeg) then 0 else 1 := by
  have h10 := sp_10 hv h
  unfold hwI whoI bornW
  rw [if_neg h10, if_neg h10, if_neg h]
  by_cases c : w 1 = -1
  · rw [if_pos c, ite_self]
  · rw [if_neg (ret_in hv c).1, if_neg c]
theorem le_rT {w : Nat → Int32} (hv : Vld w) (h1 : ¬ w 1 = -1) {x : Int32} (h : ¬ w 1 < x) : x.toInt ≤ rT w := by
  obtain ⟨-, e, l⟩ := ret_in hv h1
  rw [i32_lt] at h
  have : (w 1).toInt = rT w := by conv => lhs; rw [e]
                                  exact nI_toInt (by omega)
  omega
theorem x_own (h : XI f z xo w lf n k tp ws) (hv : Vld w) (p : Int32) : ∃ f1, fnX9_own f xo p = some (ownV w p, f1) ∧ XI f1 z xo w lf n k tp ws ∧ OuB f f1 xo 280 := by
  obtain ⟨-, b, ⟨pi, tm, sr, so, qo, tl, c, hr⟩, -, -, -, ⟨ra, ow, ch, hK⟩, -⟩ := id h
  unfold fnX9_own fX9_own_22 ownV
  rw [ob_is b, bs, ob_r1 b, bs, c_hasSpouse c hr.1 hv.c, bs]
  by_cases c1 : inI p 0 (w 4 - 1) = 0
  · rw [if_pos c1, if_pos c1]; exact ⟨f, rfl, h.ss⟩
  obtain ⟨k1, k2⟩ := spo_of hv c1
  have hk4 := hv.p4 k2
  rw [if_neg c1, if_neg c1, bs, p_g1 c, bs, hr.1.1.2.1]
  by_cases c2 : w 1 = -1
  · rw [if_pos c2, if_pos c2]; exact ⟨f, rfl, h.ss⟩
  obtain ⟨ra', e1, -⟩ := c_ownOf (ro := xo + 43) (ra := ra) (ow := ow) (ch := ch) c (by omega) hr.1 hr.2.2.1 hv (fun ra ow => (c.rb (by omega)).cq hk4) (hr.2.1 _ k2) k2
  rw [hK.rb] at e1
  rw [if_neg c2, if_neg c2, ob_r6 b, bs, bs, bs, p_r7 c, bs, p_qr c k1 hk4, bs, e1, bs]
  exact ⟨_, rfl, h.kk ra' ow ch⟩
theorem x_worth (h : XI f z xo w lf n k tp ws) (hv : Vld w) (p q : Int32) : ∃ f1, fnX9_worth f xo p q = some (worthV w p q, f1) ∧ XI f1 z xo w lf n k tp ws ∧ OuB f f1 xo 280 := by
  obtain ⟨-, b, ⟨pi, tm, sr, so, qo, tl, c, hr⟩, -, -, -, ⟨ra, ow, ch, hK⟩, -⟩ := id h
  have no : ∃ f1, some ((-1 : Int64), f) = some (-1, f1) ∧ XI f1 z xo w lf n k tp ws ∧ OuB f f1 xo 280 := ⟨f, rfl, h.ss⟩
  unfold fnX9_worth fX9_worth_29 fX9_worth_79 worthV hwI
  rw [ob_is b, bs, c_isMonth, bs, ob_r1 b, bs, p_g1 c, bs, hr.1.1.2.1, bs, p_g0 c, bs, hr.1.1.1, bs, c_hasSpouse c hr.1 hv.c, bs]
  by_cases c1 : inI q 0 1799 = 0
  · rw [if_pos c1, if_pos c1, ite_self, if_pos rfl]; exact no
  rw [if_neg c1, if_neg c1]
  obtain ⟨s1, s2⟩ := mon_of c1
  have eq : q.toInt = q.toNatClampNeg := by conv => lhs; rw [s1]
                                            exact nI_toInt (by omega)
  by_cases c2 : w 1 = -1
  · rw [if_pos c2, if_pos c2, ite_self, if_pos rfl]; exact no
  rw [if_neg c2, if_neg c2]
  by_cases c3 : q < w 0
  · rw [if_pos c3, ite_self, if_pos rfl, if_neg (show ¬ w 0 ≤ q by rw [i32_lt] at c3; rw [i32_le]; omega)]; exact no
  have h0 : (w 0).toInt ≤ q.toNatClampNeg := by rw [i32_lt] at c3; omega
  rw [if_neg c3, if_pos (show w 0 ≤ q by rw [i32_lt] at c3; rw [i32_le]; omega)]
  unfold whoI bornW
  by_cases c4 : p = 10
  · obtain ⟨ra', e1⟩ := c_worthAll (ro := xo + 43) (ra := ra) (ow := ow) (ch := ch) c (by omega) hr.1 hr.2.2.1 hv c2 s1 s2 h0
    rw [hK.rb] at e1
    rw [if_pos c4, if_pos c4, if_pos c4, if_pos c4, if_neg one_0, if_neg c3, if_neg one_0, ob_r6 b, bs, bs, e1, bs]
    exact ⟨_, rfl, h.kk ra' ow ch⟩
  rw [if_neg c4, if_neg c4, if_neg c4, if_neg c4]
  by_cases c5 : inI p 0 (w 4 - 1) = 0
  · rw [if_pos c5, if_pos c5, if_pos rfl]; exact no
  rw [if_neg c5, if_neg c5]
  obtain ⟨k1, k2⟩ := spo_of hv c5
  have hk4 := hv.p4 k2
  rw [bs, p_r7 c, bs, p_qr c k1 hk4, bs, q_g0 (c.cq hk4), bs, (hr.2.1 _ k2).1]
  by_cases c6 : q < w (35 + 8 * p.toNatClampNeg)
  · rw [if_pos c6, if_pos rfl, if_neg (show ¬ w (35 + 8 * p.toNatClampNeg) ≤ q by rw [i32_lt] at c6; rw [i32_le]; omega)]; exact no
  obtain ⟨ra', e1⟩ := c_worthSp (ro := xo + 43) (ra := ra) (ow := ow) (ch := ch) c (by omega) hr.1 hr.2.2.1 hv (fun ra ow => (c.rb (by omega)).cq hk4) (hr.2.1 _ k2) k2 c2 s1 s2 h0 (by rw [i32_lt] at c6; omega)
  rw [hK.rb] at e1
  rw [if_neg c6, if_neg one_0, if_pos (show w (35 + 8 * p.toNatClampNeg) ≤ q by rw [i32_lt] at c6; rw [i32_le]; omega), ob_r6 b, bs, bs, bs, p_r7 c, bs, p_qr c k1 hk4, bs, e1, bs]
  exact ⟨_, rfl, h.kk ra' ow ch⟩
theorem x_hasW (h : XI f z xo w lf n k tp ws) (hv : Vld w) (p : Int32) : fnX9_hasWorthInRetires f xo p = some (if inI p 0 (w 4 - 1) = 0 then 0 else hwI w p (w 1)) := by
  obtain ⟨-, b, ⟨pi, tm, sr, so, qo, tl, c, hr⟩, -⟩ := id h
  unfold fnX9_hasWorthInRetires fX9_hasWorthInRetires_65 fX9_hasWorthInRetires_66
  rw [ob_is b, bs, ob_r1 b, bs, c_hasSpouse c hr.1 hv.c, bs, pb0, pb1]
  by_cases c1 : inI p 0 (w 4 - 1) = 0
  · rw [if_pos c1, if_pos c1]
  obtain ⟨k1, k2⟩ := spo_of hv c1
  have hk4 := hv.p4 k2
  rw [if_neg c1, if_neg c1, hw_ret hv c1, bs, p_g1 c, bs, hr.1.1.2.1]
  by_cases c2 : w 1 = -1
  · rw [if_pos c2, if_pos c2]
  rw [if_neg c2, if_neg c2, bs, p_g0 c, bs, hr.1.1.1, bs, p_g1 c, bs, hr.1.1.2.1]
  by_cases c3 : w 1 < w 0
  · rw [if_pos c3, if_pos c3]
  rw [if_neg c3, if_neg c3, bs, p_r7 c, bs, p_qr c k1 hk4, bs, q_g0 (c.cq hk4), bs, (hr.2.1 _ k2).1, bs, p_g1 c, bs, hr.1.1.2.1]
  by_cases c4 : w 1 < w (35 + 8 * p.toNatClampNeg)
  · rw [if_pos c4, if_pos c4]
  · rw [if_neg c4, if_neg c4]
theorem hw_bd {w : Nat → Int32} (hv : Vld w) {p : Int32} (h : ¬ inI p 0 (w 4 - 1) = 0) (hw : ¬ hwI w p (w 1) = 0) : ¬ w 1 = -1 ∧ (w 0).toInt ≤ rT w ∧ (w (35 + 8 * p.toNatClampNeg)).toInt ≤ rT w := by
  rw [hw_ret hv h] at hw
  by_cases c2 : w 1 = -1
  · rw [if_pos c2] at hw; exact absurd rfl hw
  rw [if_neg c2] at hw
  by_cases c3 : w 1 < w 0
  · rw [if_pos c3] at hw; exact absurd rfl hw
  rw [if_neg c3] at hw
  by_cases c4 : w 1 < w (35 + 8 * p.toNatClampNeg)
  · rw [if_pos c4] at hw; exact absurd rfl hw
  exact ⟨c2, le_rT hv c2 c3, le_rT hv c2 c4⟩
theorem x_best (h : XI f z xo w lf n k tp ws) (hv : Vld w) (p : Int32) : ∃ f1, fnX9_claimBest f xo p = some (cbV w p, f1) ∧ XI f1 z xo w lf n k tp ws ∧ OuB f f1 xo 280 := by
  obtain ⟨-, b, ⟨pi, tm, sr, so, qo, tl, c, hr⟩, -, -, -, ⟨ra, ow, ch, hK⟩, -⟩ := id h
  have no : ∃ f1, some ((-1 : Int32), f) = some (-1, f1) ∧ XI f1 z xo w lf n k tp ws ∧ OuB f f1 xo 280 := ⟨f, rfl, h.ss⟩
  unfold fnX9_claimBest fX9_claimBest_32 cbV
  rw [ob_is b, bs, x_hasW h hv, bs]
  by_cases c1 : inI p 0 (w 4 - 1) = 0
  · rw [if_pos c1, if_pos c1, if_pos rfl]; exact no
  obtain ⟨k1, k2⟩ := spo_of hv c1
  have hk4 := hv.p4 k2
  rw [if_neg c1, if_neg c1]
  by_cases c2 : hwI w p (w 1) = 0
  · rw [if_pos c2, if_pos c2]; exact no
  obtain ⟨g1, g2, g3⟩ := hw_bd hv c1 c2
  obtain ⟨ra', e1⟩ := c_best (ro := xo + 43) (ra := ra) (ow := ow) (ch := ch) c (by omega) hr.1 hr.2.2.1 hv (fun ra ow => (c.rb (by omega)).cq hk4) (hr.2.1 _ k2) k2 g1 g2 g3
  rw [hK.rb] at e1
  rw [if_neg c2, if_neg c2, ob_r6 b, bs, ob_r1 b, bs, bs, p_r7 c, bs, p_qr c k1 hk4, bs, e1, bs]
  exact ⟨_, rfl, h.kk ra' ow ch⟩
theorem x_half (h : XI f z xo w lf n k tp ws) (hv : Vld w) (p : Int32) : ∃ f1, fnX9_half f xo p = some (hfV w p, f1) ∧ XI f1 z xo w lf n k tp ws ∧ OuB f f1 xo 280 := by
  obtain ⟨-, b, ⟨pi, tm, sr, so, qo, tl, c, hr⟩, -, -, -, ⟨ra, ow, ch, hK⟩, -⟩ := id h
  have no : ∃ f1, some ((-1 : Int32), f) = some (-1, f1) ∧ XI f1 z xo w lf n k tp ws ∧ OuB f f1 xo 280 := ⟨f, rfl, h.ss⟩
  unfold fnX9_half fX9_half_24 hfV
  rw [ob_is b, bs, x_hasW h hv, bs]
  by_cases c1 : inI p 0 (w 4 - 1) = 0
  · rw [if_pos c1, if_pos c1, if_pos rfl]; exact no
  obtain ⟨k1, k2⟩ := spo_of hv c1
  have hk4 := hv.p4 k2
  rw [if_neg c1, if_neg c1]
  by_cases c2 : hwI w p (w 1) = 0
  · rw [if_pos c2, if_pos c2, ite_self]; exact no
  rw [if_neg c2, if_neg c2, ob_r1 b, bs, p_r7 c, bs, p_qr c k1 hk4, bs, q_g2 (c.cq hk4), bs, (hr.2.1 _ k2).2.2.1]
  by_cases c3 : w (37 + 8 * p.toNatClampNeg) = -1
  · rw [if_pos c3, if_pos c3]; exact no
  obtain ⟨g1, g2, g3⟩ := hw_bd hv c1 c2
  obtain ⟨ra', ch', e1⟩ := c_half (ro := xo + 43) (ra := ra) (ow := ow) (ch := ch) c (by omega) hr.1 hr.2.2.1 hv (fun ra ow ch => (c.rb (by omega)).cq hk4) (hr.2.1 _ k2) k2 c3 g1 g2 g3
  rw [hK.rb] at e1
  rw [if_neg c3, if_neg c3, ob_r6 b, bs, bs, bs, p_r7 c, bs, p_qr c k1 hk4, bs, e1, bs]
  exact ⟨_, rfl, h.kk ra' ow ch'⟩
theorem x_crosses (h : XI f z xo w lf n k tp ws) (hv : Vld w) (p : Int32) : ∃ f1, fnX9_crosses f xo p = some (crsV w p, f1) ∧ XI f1 z xo w lf n k tp ws ∧ OuB f f1 xo 280 := by
  obtain ⟨-, b, ⟨pi, tm, sr, so, qo, tl, c, hr⟩, -, -, -, ⟨ra, ow, ch, hK⟩, -⟩ := id h
  have no : ∃ f1, some ((-1 : Int32), f) = some (-1, f1) ∧ XI f1 z xo w lf n k tp ws ∧ OuB f f1 xo 280 := ⟨f, rfl, h.ss⟩
  unfold fnX9_crosses fX9_crosses_38 crsV
  rw [ob_is b, bs, ob_r1 b, bs, c_hasSpouse c hr.1 hv.c, bs]
  by_cases c1 : inI p 0 (w 4 - 1) = 0
  · rw [if_pos c1, if_pos c1]; exact no
  obtain ⟨k1, k2⟩ := spo_of hv c1
  have hk4 := hv.p4 k2
  rw [if_neg c1, if_neg c1, bs, p_r7 c, bs, p_qr c k1 hk4, bs, q_g2 (c.cq hk4), bs, (hr.2.1 _ k2).2.2.1]
  by_cases c3 : w (37 + 8 * p.toNatClampNeg) = -1
  · rw [if_pos c3, if_pos c3]; exact no
  rw [if_neg c3, if_neg c3, bs, p_g1 c, bs, hr.1.1.2.1]
  by_cases c2 : w 1 = -1
  · rw [if_pos c2, crL_none c2]; exact no
  obtain ⟨ra', ch', e1⟩ := c_cross (ro := xo + 43) (ra := ra) (ow := ow) (ch := ch) c (by omega) hr.1 hr.2.2.1 hv (fun ra ow ch => (c.rb (by omega)).cq hk4) (hr.2.1 _ k2) k2 c3
  rw [hK.rb] at e1
  rw [if_neg c2, ob_r6 b, bs, bs, bs, p_r7 c, bs, p_qr c k1 hk4, bs, e1, bs]
  exact ⟨_, rfl, h.kk ra' ow ch'⟩
theorem x_happens (h : XI f z xo w lf n k tp ws) (hv : Vld w) (i : Int32) : ∃ f1, fnX9_happens f xo i = some (hapV w i, f1) ∧ XI f1 z xo w lf n k tp ws ∧ OuB f f1 xo 280 := by
  obtain ⟨-, b, ⟨pi, tm, sr, so, qo, tl, c, hr⟩, -, -, -, -, ⟨sz, cd, hC⟩⟩ := id h
  unfold fnX9_happens fX9_happens_38 fX9_happens_39 hapV
  obtain ⟨sz', cd', e1, e2, e3⟩ := c_fill (co := xo + 50) (sz := sz) (cd := cd) c (by omega) hr.1 hr.2.1 hv
  have eb : CaB (xo + 50) sz cd f = f := BU_self hC
  rw [eb] at e1
  subst e2
  have hk : XI (CaB (xo + 50) (nI (evT w).2) cd' f) z xo w lf n k tp ws ∧ OuB f (CaB (xo + 50) (nI (evT w).2) cd' f) xo 280 := ⟨h.ca OuB.bu ⟨_, cd', fun o ho => BU_at ho⟩, OuB.bu.wd (by omega) (by omega)⟩
  have hT := evT_le hv.c
  rw [ob_is b, bs, ob_r7 b, bs, ob_r1 b, bs, e1, bs, ob_r7 hk.1.2.1, bs, k_g1, bs, bs, k_r0, bs]
  generalize hN : (evT w).2 = N at *
  by_cases c1 : i < 0
  · rw [if_pos c1, if_pos (inI_0.mpr (Or.inl c1))]; exact ⟨_, rfl, hk⟩
  have hi0 : 0 ≤ i.toInt := by rw [i32_lt, z32] at c1; omega
  obtain ⟨i1, i2⟩ := nI_clampI hi0
  rw [if_neg c1]
  have e4 : (nI N - 1).toInt = N - 1 := by
    have o : (1 : Int32).toInt = 1 := rfl
    rw [i32_sub (by rw [nI_toInt (by omega), o]; omega) (by rw [nI_toInt (by omega), o]; omega), nI_toInt (by omega), o]
  by_cases c2 : nI N ≤ i
  · rw [if_pos c2, if_pos (inI_0.mpr (Or.inr (by rw [i32_lt, e4]; rw [i32_le, nI_toInt (by omega)] at c2; omega)))]; exact ⟨_, rfl, hk⟩
  · have hlt : i.toNatClampNeg < N := by rw [i32_le, nI_toInt (by omega)] at c2; omega
    rw [if_neg c2, if_neg (by rw [inI_0, i32_lt, i32_lt, e4, z32]; omega), k_a i1 (by omega), bs, e3 _ hlt]; exact ⟨_, rfl, hk⟩
end PUW
