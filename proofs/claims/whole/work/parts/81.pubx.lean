/-! ===== the class's face: feed, end, what is kept ===== -/
theorem PlnR_cg {w w' pi tm : Nat → Int32} {sr : Nat → Nat} {so qo tl : Nat → Nat → Int32} (hr : PlnR w pi tm sr so qo tl) (hc : Cnt w) (g : ∀ j, j < 87 → w' j = w j) : PlnR w' pi tm sr so qo tl := by
  obtain ⟨⟨⟨c0, c1, c2, c3, c4, c5, c6⟩, tmr, s8, sp⟩, hQ, ⟨y1, y2, y3⟩, inj⟩ := hr
  have h8 := hc.1.2
  have h4 := hc.2.1.2
  have h10 := hc.2.2.2
  have eS : cS w' = cS w := by unfold cS; rw [g 3 (by omega)]
  have eP : cP w' = cP w := by unfold cP; rw [g 4 (by omega)]
  have eY : cY w' = cY w := by unfold cY; rw [g 5 (by omega)]
  have esv : ∀ a b, svc w' a b = svc w a b := fun a b => svc_cg2 hc (g 3 (by omega)) (fun j x y => g j (by omega))
  refine ⟨⟨⟨?_, ?_, ?_, ?_, ?_, ?_, ?_⟩, ?_, s8, ?_⟩, ?_, ?_, inj⟩
  · rw [g 0 (by omega)]; exact c0
  · rw [g 1 (by omega)]; exact c1
  · rw [g 2 (by omega)]; exact c2
  · rw [g 3 (by omega)]; exact c3
  · rw [esv]; exact c4
  · rw [g 4 (by omega)]; exact c5
  · rw [g 5 (by omega)]; exact c6
  · intro i hi; rw [g _ (by omega)]; exact tmr i hi
  · intro k hk; rw [eS] at hk; rw [g _ (by omega), g _ (by omega), g _ (by omega)]; exact sp k hk
  · intro k hk
    rw [eP] at hk
    have q := hQ k hk
    unfold QR wed at q ⊢
    rw [g (35 + 8 * k) (by omega), g (36 + 8 * k) (by omega), g (37 + 8 * k) (by omega), g (38 + 8 * k) (by omega), g (39 + 8 * k) (by omega), g (40 + 8 * k) (by omega), g (41 + 8 * k) (by omega), g (42 + 8 * k) (by omega), esv]
    exact q
  · refine ⟨by rw [eY]; exact y1, fun i hi => ?_, fun j hj => ?_⟩
    · rw [eY] at hi
      obtain ⟨j, j1, j2, j3⟩ := y2 i hi
      exact ⟨j, by rw [eY]; exact j1, by rw [g _ (by omega)]; exact j2, by rw [g _ (by omega)]; exact j3⟩
    · rw [eY] at hj
      obtain ⟨i, i1, i2, i3⟩ := y3 j hj
      exact ⟨i, by rw [eY]; exact i1, by rw [g _ (by omega)]; exact i2, by rw [g _ (by omega)]; exact i3⟩
theorem IsP.row {f : pz_H} {po : Nat} {w w' : Nat → Int32} (h : IsP f po w) (hc : Cnt w) (g : ∀ j, j < 87 → w' j = w j) : IsP f po w' := by
  obtain ⟨pi, tm, sr, so, qo, tl, h1, h2⟩ := h
  exact ⟨pi, tm, sr, so, qo, tl, h1, PlnR_cg h2 hc g⟩
theorem any_is {f : pz_H} {po : Nat} (h : AnyP f po) : pz_is f po 2 = some () := by
  obtain ⟨pi, tm, sr, so, qo, tl, h1, h2⟩ := h
  exact p_is h1
section PUX
variable {f f' : pz_H} {z xo n k : Nat} {w tp : Nat → Int32} {lf : Int32} {ws : Nat → Nat → Int32}
theorem x_feed (h : XI f z xo w lf n k tp ws) (a b c d e : Int32) : (n + 20 ≤ 400 ∧ ∃ f1, fnX9_feed f xo a b c d e = some (nI (n + 20), f1) ∧ XI f1 z xo w lf (n + 20) k (fd5 tp n a b c d e) ws ∧ OuB f f1 xo 280) ∨ (400 < n + 20 ∧ fnX9_feed f xo a b c d e = some (-1, f)) := by
  obtain ⟨⟨-, -, h4, -⟩, ob, -, -, -, ⟨rv, bt, vs, g, g1, g2⟩, -⟩ := id h
  have eb : EB (xo + 40) rv bt vs f = f := BU_self g
  have hO : ∀ rv bt vs, (EB (xo + 40) rv bt vs f).1 xo = ObC xo lf (nI k) := fun rv bt vs => by unfold EB; rw [BU_ne (by omega)]; exact ob
  have e20 : nI n + 20 = nI (n + 20) := by rw [show (20 : Int32) = nI 20 from rfl, nI_add]
  unfold fnX9_feed
  by_cases q : n + 20 ≤ 400
  · left; refine ⟨q, ?_⟩
    obtain ⟨b1, e1, t1⟩ := c_append (eo := xo + 40) (vs := vs) (f := f) (v := a) g1 (by omega) g2
    obtain ⟨b2, e2, t2⟩ := c_append (eo := xo + 40) (rv := va_up rv 1 (nI (n + 4))) (vs := vs) (f := f) (v := b) up_s (by omega) t1
    obtain ⟨b3, e3, t3⟩ := c_append (eo := xo + 40) (rv := va_up (va_up rv 1 (nI (n + 4))) 1 (nI (n + 4 + 4))) (vs := vs) (f := f) (v := c) up_s (by omega) t2
    obtain ⟨b4, e4, t4⟩ := c_append (eo := xo + 40) (rv := va_up (va_up (va_up rv 1 (nI (n + 4))) 1 (nI (n + 4 + 4))) 1 (nI (n + 4 + 4 + 4))) (vs := vs) (f := f) (v := d) up_s (by omega) t3
    obtain ⟨b5, e5, t5⟩ := c_append (eo := xo + 40) (rv := va_up (va_up (va_up (va_up rv 1 (nI (n + 4))) 1 (nI (n + 4 + 4))) 1 (nI (n + 4 + 4 + 4))) 1 (nI (n + 4 + 4 + 4 + 4))) (vs := vs) (f := f) (v := e) up_s (by omega) t4
    rw [eb] at e1
    have g3 : pz_gI f (xo + 40) 3 1 = some (nI n) := by rw [← g1]; exact gI_of (g 0 (by decide)) rfl
    rw [ob_is ob, bs, ob_r5 ob, bs, g3, bs, e20, if_pos (by rw [show (400 : Int32) = nI 400 from rfl, nI_leI (by omega) (by decide)]; exact q), bs, e1, bs, ob_r5 (hO _ _ _), bs, e2, bs, ob_r5 (hO _ _ _), bs, e3, bs, ob_r5 (hO _ _ _), bs, e4, bs, ob_r5 (hO _ _ _), bs, e5, bs, ob_r5 (hO _ _ _), bs, e_g1, bs, up_s]
    refine ⟨_, rfl, h.rd OuB.bu q ⟨_, b5, vs, fun o ho => BU_at ho, up_s, t5⟩, OuB.bu.wd (by omega) (by omega)⟩
  · right; refine ⟨by omega, ?_⟩
    have g3 : pz_gI f (xo + 40) 3 1 = some (nI n) := by rw [← g1]; exact gI_of (g 0 (by decide)) rfl
    rw [ob_is ob, bs, ob_r5 ob, bs, g3, bs, e20, if_neg (by rw [show (400 : Int32) = nI 400 from rfl, nI_leI (by omega) (by decide)]; exact q)]
theorem x_end (h : XI f z xo w lf n k tp ws) (p : Int32) : (inI p 0 (nI n) = 0 ∧ fnX9_end f xo p = some (0, f)) ∨ (¬ inI p 0 (nI n) = 0 ∧ ∃ m f1, p = nI m ∧ fnX9_end f xo p = some (1, f1) ∧ XI f1 z xo w lf m k tp ws ∧ OuB f f1 xo 280) := by
  obtain ⟨⟨-, -, h4, -⟩, ob, -, -, -, ⟨rv, bt, vs, g, g1, g2⟩, -⟩ := id h
  have eb : EB (xo + 40) rv bt vs f = f := BU_self g
  have g3 : pz_gI f (xo + 40) 3 1 = some (nI n) := by rw [← g1]; exact gI_of (g 0 (by decide)) rfl
  unfold fnX9_end fX9_end_15
  rw [ob_is ob, bs, ob_r5 ob, bs, g3, bs, bs, pb0, bs]
  by_cases c1 : p < 0
  · left; rw [if_pos c1]; exact ⟨inI_0.mpr (Or.inl c1), rfl⟩
  rw [if_neg c1]
  by_cases c2 : p ≤ nI n
  · right
    have hi : ¬ inI p 0 (nI n) = 0 := by
      rw [inI_0]; rintro (q | q)
      · exact c1 q
      · rw [i32_le] at c2; rw [i32_lt] at q; omega
    refine ⟨hi, ?_⟩
    obtain ⟨r1, r2⟩ := row_of (by omega) hi
    have ew := e_w1 (eo := xo + 40) (rv := rv) (bt := bt) (vs := vs) (f := f) (v := p)
    rw [eb] at ew
    rw [if_pos c2, ew, bs, pb1, bs]
    exact ⟨p.toNatClampNeg, _, r1, rfl, h.rd OuB.bu (by omega) ⟨_, bt, vs, fun o ho => BU_at ho, by rw [up_s]; exact r1, fun j hj => g2 j (by omega)⟩, OuB.bu.wd (by omega) (by omega)⟩
  · left
    rw [if_neg c2]
    exact ⟨inI_0.mpr (Or.inr (by rw [i32_le] at c2; rw [i32_lt]; omega)), rfl⟩
/-! ===== the row of past plans ===== -/
theorem ab_r {p : Nat → Nat} (h : f.1 (xo + 39) = PaC xo p) {i : Int32} {j : Nat} (hi : i = nI j) (hj : j < 12) : pz_aR f (xo + 39) 5 i = some (xo + 52 + 19 * p j) := by
  rw [aR_of h hi hj (by decide), if_pos hj]
theorem ab_w {p : Nat → Nat} {q : Nat} (h : f.1 (xo + 39) = PaC xo p) {i : Int32} {j : Nat} (hi : i = nI j) (hj : j < 12) (hq : pz_is f (xo + 52 + 19 * q) 2 = some ()) : pz_tR f (xo + 39) 5 2 i (xo + 52 + 19 * q) = some (AB xo (va_up p j q) f) := by
  obtain ⟨h1, h2⟩ := inr_of hi hj (show 12 < 2 ^ 31 by decide)
  unfold PaC at h
  unfold pz_tR; rw [h]; dsimp only; rw [if_pos ⟨rfl, h1, hq⟩, h2, up_bu]
  unfold AB PaC
  congr 2
  funext o
  congr 6; funext i
  unfold va_up
  by_cases e : i = j
  · subst e; rw [if_pos rfl, if_pos hj, if_pos rfl]
  · rw [if_neg e, if_neg e]
theorem AB_at {p : Nat → Nat} : (AB xo p f).1 (xo + 39) = PaC xo p := BU_0 (by decide)
theorem AB_AB {p p' : Nat → Nat} : AB xo p (AB xo p' f) = AB xo p f := BU_BU
theorem AB_ne {p : Nat → Nat} {a : Nat} (h : a ≠ xo + 39) : (AB xo p f).1 a = f.1 a := by unfold AB; rw [BU_ne (by omega)]
theorem OB_ne {pc : Int32} {a : Nat} (h : a ≠ xo) : (OB xo lf pc f).1 a = f.1 a := by unfold OB; rw [BU_ne (by omega)]
/-- the plan is kept in the place that is next -/
theorem c_keep62 {j q : Nat} {p : Nat → Nat} (b : f.1 xo = ObC xo lf (nI j)) (a : f.1 (xo + 39) = PaC xo p) (hj : j < 12) (hq : p j = q) (hP : IsP f (xo + 1) w) (hA : AnyP f (xo + 52 + 19 * q)) (hc : Cnt w) : ∃ pi tm sr so qo tl, fX9_keepPast_62 f xo = some (OB xo lf (nI (j + 1)) (PB (xo + 52 + 19 * q) pi tm sr so qo tl f)) ∧ PlnR w pi tm sr so qo tl := by
  obtain ⟨pi1, tm1, sr1, so1, qo1, tl1, h1, hr⟩ := hP
  obtain ⟨pi0, tm0, sr0, so0, qo0, tl0, h0, s8, inj⟩ := hA
  obtain ⟨pi', tm', so', qo', tl', e1, e2⟩ := c_cpPlan h0 h1 (by omega) s8 inj hr hc
  have b' : (PB (xo + 52 + 19 * q) pi' tm' sr0 so' qo' tl' f).1 xo = ObC xo lf (nI j) := by unfold PB; rw [BU_ne (by omega)]; exact b
  unfold fX9_keepPast_62
  rw [ob_r3 b, bs, ob_g4 b, bs, ab_r a rfl hj, bs, hq, ob_r1 b, bs, e1, bs, ob_g4 b', bs, nI_1, ob_w4 b', bs]
  exact ⟨_, _, _, _, _, _, rfl, e2⟩
theorem c_keep_loop {pr : Nat → Nat} (h : XI f z xo w lf n k tp ws) (hp : ∀ i, i < 12 → pr i < 12) (hA : ∀ j, j < 12 → AnyP f (xo + 52 + 19 * j)) : ∀ (N i : Nat) (p : Nat → Nat), 1 ≤ i → i ≤ 12 → 12 - i < N → (∀ j, j + 1 < i → p j = pr (j + 1)) → (∀ j, i ≤ j → j < 12 → p j = pr j) → ∃ p', fX9_keepPast_18 N (AB xo p f) xo (xo + 52 + 19 * pr 0) (nI i) = fX9_keepPast_62 (OB xo lf (nI k - 1) (AB xo p' f)) xo ∧ (∀ j, j < 11 → p' j = pr (j + 1)) ∧ p' 11 = pr 0 := by
  obtain ⟨-, b, -⟩ := id h
  have hb : ∀ p, (AB xo p f).1 xo = ObC xo lf (nI k) := fun p => by rw [AB_ne (by omega)]; exact b
  have hi : ∀ p j, j < 12 → pz_is (AB xo p f) (xo + 52 + 19 * j) 2 = some () := fun p j hj => any_is ((hA j hj).cg (OuB.bu.sm (by omega)))
  intro N
  induction N with
  | zero => intro i _ _ _ hh; omega
  | succ N ih =>
    intro i p h1 h2 hN g1 g2
    show ∃ p', fX9_keepPast_18b _ _ _ _ _ = _ ∧ _
    unfold fX9_keepPast_18b
    by_cases c : i = 12
    · subst c
      have hb2 : (AB xo (va_up p 11 (pr 0)) f).1 xo = ObC xo lf (nI k) := hb _
      rw [if_pos (by decide), ob_r3 (hb p), bs, ab_w AB_at (i := 11) (j := 11) rfl (by decide) (hi p _ (hp 0 (by decide))), bs, AB_AB, ob_g4 hb2, bs, ob_w4 hb2, bs]
      refine ⟨_, rfl, fun j hj => ?_, up_s⟩
      rw [up_n (by omega)]; exact g1 j (by omega)
    · rw [if_neg (by rw [show (12 : Int32) = nI 12 from rfl, nI_leI (by decide) (by omega)]; omega), ob_r3 (hb p), bs, bs, ab_r AB_at rfl (by omega), bs, pred_nI (by omega), ab_w AB_at rfl (by omega) (hi p _ (by rw [g2 i (by omega) (by omega)]; exact hp i (by omega))), bs, AB_AB, nI_1]
      refine ih (i + 1) _ (by omega) (by omega) (by omega) (fun j hj => ?_) (fun j a c => ?_)
      · by_cases e : j = i - 1
        · subst e; rw [up_s, g2 i (by omega) (by omega), show i - 1 + 1 = i by omega]
        · rw [up_n e]; exact g1 j (by omega)
      · rw [up_n (by omega)]; exact g2 j (by omega) c
def kpW (k : Nat) (ws : Nat → Nat → Int32) (w : Nat → Int32) (i : Nat) : Nat → Int32 := if i + 1 = kpN k then w else ws (if k = 12 then i + 1 else i)
theorem x_keep (h : XI f z xo w lf n k tp ws) (hc : Cnt w) : ∃ f1, fnX9_keepPast f xo = some f1 ∧ XI f1 z xo w lf n (kpN k) tp (kpW k ws w) ∧ OuB f f1 xo 280 ∧ SmB f f1 (xo + 20) 19 := by
  obtain ⟨⟨hz, hs, h4, h12⟩, b, hP, hT, ⟨pr, p1, p2, p3, p4, p5⟩, hR, hK, hC⟩ := id h
  unfold fnX9_keepPast
  rw [ob_is b, bs, ob_g4 b, bs]
  by_cases c : k = 12
  · subst c
    have ekp : kpN 12 = 12 := rfl
    obtain ⟨p', e1, q1, q2⟩ := c_keep_loop (pr := pr) h p1 p4 pz_F 1 pr (by omega) (by omega) (by unfold pz_F; omega) (fun j hj => by omega) (fun j _ _ => rfl)
    have eA : AB xo pr f = f := BU_self (fun o ho => by rw [show o = 0 by omega]; exact p3)
    rw [eA] at e1
    have e1 : fX9_keepPast_18 pz_F f xo (xo + 52 + 19 * pr 0) 1 = fX9_keepPast_62 (OB xo lf (nI 12 - 1) (AB xo p' f)) xo := e1
    rw [if_pos (by decide), ob_r3 b, bs, ab_r p3 (i := 0) (j := 0) rfl (by decide), bs, e1]
    have o1 : OuB f (OB xo lf (nI 11) (AB xo p' f)) xo 40 := OuB.tr (f' := AB xo p' f) (OuB.bu.wd (by omega) (by omega)) (OuB.bu.wd (by omega) (by omega))
    obtain ⟨pi, tm, sr, so, qo, tl, e2, e3⟩ := c_keep62 (f := OB xo lf (nI 11) (AB xo p' f)) (w := w) (lf := lf) (p := p') (q := pr 0) (j := 11) OB_at (by rw [OB_ne (by omega)]; exact AB_at) (by decide) q2 (hP.cg (fun a x y => by rw [OB_ne (by omega), AB_ne (by omega)])) ((p4 _ (p1 0 (by decide))).cg (o1.sm (by omega))) hc
    have hp0 := p1 0 (by decide)
    rw [show nI 12 - 1 = nI 11 from rfl, e2]
    have hg : ∀ a, a ≠ xo → a ≠ xo + 39 → (a < xo + 52 + 19 * pr 0 ∨ xo + 52 + 19 * pr 0 + 19 ≤ a) → (OB xo lf (nI (11 + 1)) (PB (xo + 52 + 19 * pr 0) pi tm sr so qo tl (OB xo lf (nI 11) (AB xo p' f)))).1 a = f.1 a := by
      intro a h1 h2 h3
      rw [OB_ne h1]; unfold PB; rw [BU_ne h3, OB_ne h1, AB_ne h2]
    have hpl : IsP (OB xo lf (nI (11 + 1)) (PB (xo + 52 + 19 * pr 0) pi tm sr so qo tl (OB xo lf (nI 11) (AB xo p' f)))) (xo + 52 + 19 * pr 0) w := ⟨pi, tm, sr, so, qo, tl, HasB.cg (f := PB (xo + 52 + 19 * pr 0) pi tm sr so qo tl (OB xo lf (nI 11) (AB xo p' f))) PB_plf (fun a x y => OB_ne (by omega)), e3⟩
    have hp' : ∀ i, i < 12 → p' i = pr (if i = 11 then 0 else i + 1) := by
      intro i hi
      by_cases e : i = 11
      · subst e; rw [if_pos rfl]; exact q2
      · rw [if_neg e]; exact q1 i (by omega)
    refine ⟨_, rfl, h.pst rfl (fun a ha => hg a (by omega) (by omega) (by omega)) OB_at (by decide) ⟨p', fun i hi => ?_, fun i j hi hj q => ?_, ?_, fun j hj => ?_, fun i hi => ?_⟩, ⟨rfl, fun a ha => hg a (by omega) (by omega) (by omega)⟩, fun a x y => hg a (by omega) (by omega) (by omega)⟩
    · rw [hp' i hi]; exact p1 _ (by split <;> omega)
    · rw [hp' i hi, hp' j hj] at q
      have := p2 _ _ (by split <;> omega) (by split <;> omega) q
      revert this
      split <;> split <;> omega
    · rw [OB_ne (by omega)]; unfold PB; rw [BU_ne (by omega), OB_ne (by omega)]; exact AB_at
    · by_cases e : j = pr 0
      · subst e; exact hpl.any
      · exact (p4 j hj).cg (fun a x y => hg a (by omega) (by omega) (by omega))
    · rw [ekp] at hi
      unfold kpW
      rw [ekp]
      by_cases e : i = 11
      · subst e; rw [if_pos rfl, q2]; exact hpl
      · rw [if_neg (by omega), if_pos rfl, q1 i (by omega)]
        have hne : pr (i + 1) ≠ pr 0 := fun q => by have := p2 _ _ (by omega) (by omega) q; omega
        have := p1 (i + 1) (by omega)
        exact (p5 (i + 1) (by omega)).cg (fun a x y => hg a (by omega) (by omega) (by omega))
  · have ekp : kpN k = k + 1 := by unfold kpN; rw [if_neg c]
    have hk : k < 12 := by omega
    have hpk := p1 k hk
    obtain ⟨pi, tm, sr, so, qo, tl, e2, e3⟩ := c_keep62 (f := f) (w := w) (lf := lf) (p := pr) (q := pr k) (j := k) b p3 hk rfl hP (p4 _ hpk) hc
    rw [if_neg (by rw [show (12 : Int32) = nI 12 from rfl, nI_eq (by omega) (by decide)]; exact c), e2]
    have hg : ∀ a, a ≠ xo → (a < xo + 52 + 19 * pr k ∨ xo + 52 + 19 * pr k + 19 ≤ a) → (OB xo lf (nI (k + 1)) (PB (xo + 52 + 19 * pr k) pi tm sr so qo tl f)).1 a = f.1 a := by
      intro a h1 h3
      rw [OB_ne h1]; unfold PB; rw [BU_ne h3]
    have hpl : IsP (OB xo lf (nI (k + 1)) (PB (xo + 52 + 19 * pr k) pi tm sr so qo tl f)) (xo + 52 + 19 * pr k) w := ⟨pi, tm, sr, so, qo, tl, HasB.cg (f := PB (xo + 52 + 19 * pr k) pi tm sr so qo tl f) PB_plf (fun a x y => OB_ne (by omega)), e3⟩
    rw [ekp]
    refine ⟨_, rfl, h.pst rfl (fun a ha => hg a (by omega) (by omega)) OB_at (by omega) ⟨pr, p1, p2, ?_, fun j hj => ?_, fun i hi => ?_⟩, ⟨rfl, fun a ha => hg a (by omega) (by omega)⟩, fun a x y => hg a (by omega) (by omega)⟩
    · rw [hg _ (by omega) (by omega)]; exact p3
    · by_cases e : j = pr k
      · subst e; exact hpl.any
      · exact (p4 j hj).cg (fun a x y => hg a (by omega) (by omega))
    · unfold kpW
      rw [ekp]
      by_cases e : i = k
      · subst e; rw [if_pos rfl]; exact hpl
      · rw [if_neg (by omega), if_neg c]
        have hne : pr i ≠ pr k := fun q => by have := p2 _ _ (by omega) (by omega) q; omega
        have := p1 i (by omega)
        exact (p5 i (by omega)).cg (fun a x y => hg a (by omega) (by omega))
end PUX
