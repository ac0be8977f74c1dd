/-! ===== the class's plan: serve ===== -/
theorem YrR_cg {w w' ys ls : Nat → Int32} (h : YrR w ys ls) (h5 : w' 5 = w 5) (heq : ∀ j, 67 ≤ j → w' j = w j) : YrR w' ys ls := by
  have eY : cY w' = cY w := by unfold cY; rw [h5]
  obtain ⟨y1, y2, y3⟩ := h
  unfold YrR
  rw [eY]
  refine ⟨y1, fun i hi => ?_, fun j hj => ?_⟩
  · obtain ⟨j, j1, j2, j3⟩ := y2 i hi
    exact ⟨j, j1, by rw [heq _ (by omega)]; exact j2, by rw [heq _ (by omega)]; exact j3⟩
  · obtain ⟨i, i1, i2, i3⟩ := y3 j hj
    exact ⟨i, i1, by rw [heq _ (by omega)]; exact i2, by rw [heq _ (by omega)]; exact i3⟩
def svK (w : Nat → Int32) (f t : Int32) : Int32 := if t ≤ f then 0 else if f < w 0 then 0 else if 0 < svc w f t then 0 else if w 1 = -1 then 1 else if t ≤ w 1 then 1 else 0
/-- while a place is made: from k on all have moved up by one -/
def SvI (sr sr' : Nat → Nat) (n k : Nat) : Prop := (∀ i, i < k → sr' i = sr i) ∧ (∀ i, k ≤ i → i < n → sr' (i + 1) = sr i) ∧ ∀ i, n < i → i < 8 → sr' i = sr i
def gP (P n i : Nat) : Nat := if i < P then i else if i = P then n else if i ≤ n then i - 1 else i
section CW
variable {po : Nat} {w pi tm : Nat → Int32} {sr : Nat → Nat} {so qo tl : Nat → Nat → Int32} {F : pz_H}
theorem c_serve68 (hr : PlnR w pi tm sr so qo tl) (hv : Vld w) (h8 : cS w < 8) {f t p : Int32} : ∀ (N k : Nat) (sr' : Nat → Nat), k ≤ cS w → k < N → SvI sr sr' (cS w) k → (∀ i, k ≤ i → i < cS w → ¬ w (11 + 3 * i) ≤ f) → ∃ sr'', fX3_serve_68 N (PB po pi tm sr' so qo tl F) po f t p (po + 7 + sr (cS w)) (nI k) = fX3_serve_111 (PB po pi tm sr'' so qo tl F) po f t p (po + 7 + sr (cS w)) (nI (srvP w f)) ∧ SvI sr sr'' (cS w) (srvP w f) := by
  obtain ⟨a1, a2, a3, -⟩ := srvW_at (w := w) (f := f) (t := t) (p := p) h8
  obtain ⟨⟨-, -, s8, sp⟩, -, -, -⟩ := hr
  intro N
  induction N with
  | zero => intro k _ _ hh; omega
  | succ N ih =>
    intro k sr' hk hN hI hj
    show ∃ sr'', fX3_serve_68b _ _ _ _ _ _ _ _ = _ ∧ _
    unfold fX3_serve_68b
    have hle : srvP w f ≤ k := by
      apply Classical.byContradiction; intro q
      rcases a3 with a | a
      · omega
      · exact hj (srvP w f - 1) (by omega) (by omega) a
    by_cases c : k = 0
    · have e : srvP w f = k := by omega
      rw [if_pos (by rw [c]; decide), e]
      exact ⟨sr', rfl, hI⟩
    have hk1 : k - 1 < cS w := by omega
    have e1 : sr' (k - 1) = sr (k - 1) := hI.1 _ (by omega)
    rw [if_neg (nI_nle (by omega) (by omega)), p_r4 PB_plf, bs, pred_nI (by omega), p_sr PB_plf (k := k - 1) rfl (by omega), bs, e1, p_s0g PB_plf (s8 _ (by omega)), bs, (sp _ hk1).1]
    by_cases d : w (11 + 3 * (k - 1)) ≤ f
    · have e : srvP w f = k := by
        apply Classical.byContradiction; intro q
        exact a2 (k - 1) (by omega) (by omega) d
      rw [if_pos d, e]
      exact ⟨sr', rfl, hI⟩
    · rw [if_neg d, bs, bs, p_sr PB_plf (k := k - 1) rfl (by omega), bs, e1, p_wr PB_plf rfl (by omega) (s8 _ (by omega)), bs, PB_PB]
      have e2 : nI k + (-1) = nI (k - 1) := by rw [← pred_nI (by omega), Int32.sub_eq_add_neg]
      rw [e2]
      refine ih (k - 1) _ (by omega) (by omega) ⟨fun i hi => ?_, fun i h1 h2 => ?_, fun i h1 h2 => ?_⟩ (fun i h1 h2 => ?_)
      · rw [up_n (by omega)]; exact hI.1 i (by omega)
      · by_cases e : i = k - 1
        · subst e; rw [show k - 1 + 1 = k by omega, up_s]
        · rw [up_n (by omega)]; exact hI.2.1 i (by omega) h2
      · rw [up_n (by omega)]; exact hI.2.2 i h1 h2
      · by_cases e : i = k - 1
        · subst e; exact d
        · exact hj i (by omega) h2
theorem c_serveEnd (hr : PlnR w pi tm sr so qo tl) (hv : Vld w) (h8 : cS w < 8) {f t p : Int32} {sr' : Nat → Nat} (hI : SvI sr sr' (cS w) (srvP w f)) : ∃ pi' sr'' so' qo', fX3_serve_111 (PB po pi tm sr' so qo tl F) po f t p (po + 7 + sr (cS w)) (nI (srvP w f)) = some (1, PB po pi' tm sr'' so' qo' tl F) ∧ PlnR (srvW w f t p) pi' tm sr'' so' qo' tl := by
  obtain ⟨a1, a2, a3, b1, b2, b3, b4, ⟨b5, b6, b7⟩, b8⟩ := srvW_at (w := w) (f := f) (t := t) (p := p) h8
  obtain ⟨⟨⟨c0, c1, c2, c3, c4, c5, c6⟩, tmr, s8, sp⟩, hQ, hy, inj⟩ := hr
  have hcu := cnt_up hv.1.1.1 (by omega)
  have hP := hv.1.2.1
  generalize srvW w f t p = w' at *
  generalize srvP w f = P at *
  unfold fX3_serve_111
  have hn8 : sr (cS w) < 8 := s8 _ h8
  rw [p_r4 PB_plf, bs, p_wr PB_plf rfl (by omega) hn8, bs, PB_PB, p_ws0 PB_plf hn8, bs, PB_PB, p_ws1 PB_plf hn8, bs, PB_PB, up_s, up_up, p_ws2 PB_plf hn8, bs, PB_PB, up_s, up_up, p_g5 PB_plf, bs, p_w5 PB_plf, bs, PB_PB]
  have eS : cS w' = cS w + 1 := by unfold cS; rw [b3]; exact hcu.2
  have eP : cP w' = cP w := by unfold cP; rw [b1 4 (by omega) (by omega)]
  have eY : cY w' = cY w := by unfold cY; rw [b1 5 (by omega) (by omega)]
  have hc' : Cnt w' := by
    unfold Cnt; rw [eS, eP, eY, b1 4 (by omega) (by omega), b1 5 (by omega) (by omega)]
    exact ⟨⟨by rw [b3]; exact hcu.1, by omega⟩, hv.1.2.1, hv.1.2.2⟩
  have hg : ∀ i, i < 8 → va_up sr' P (sr (cS w)) i = sr (gP P (cS w) i) := by
    intro i hi
    unfold gP
    by_cases e : i < P
    · rw [if_pos e, up_n (by omega)]; exact hI.1 i e
    rw [if_neg e]
    by_cases e2 : i = P
    · subst e2; rw [if_pos rfl, up_s]
    rw [if_neg e2, up_n e2]
    by_cases e3 : i ≤ cS w
    · rw [if_pos e3]
      have := hI.2.1 (i - 1) (by omega) (by omega)
      rw [show i - 1 + 1 = i by omega] at this; exact this
    · rw [if_neg e3]; exact hI.2.2 i (by omega) hi
  have hgl : ∀ i, i < 8 → gP P (cS w) i < 8 := by intro i hi; unfold gP; (repeat' split) <;> omega
  have s8' : ∀ i, i < 8 → va_up sr' P (sr (cS w)) i < 8 := fun i hi => by rw [hg i hi]; exact s8 _ (hgl i hi)
  have inj' : ∀ i j, i < 8 → j < 8 → va_up sr' P (sr (cS w)) i = va_up sr' P (sr (cS w)) j → i = j := by
    intro i j hi hj q
    rw [hg i hi, hg j hj] at q
    have q2 := inj _ _ (hgl i hi) (hgl j hj) q
    revert q2
    unfold gP
    (repeat' split) <;> omega
  have hsp : ∀ k, k < cS w' → va_up so (sr (cS w)) (va_up (va_up (va_up (so (sr (cS w))) 0 f) 1 t) 2 p) (va_up sr' P (sr (cS w)) k) 0 = w' (11 + 3 * k) ∧ va_up so (sr (cS w)) (va_up (va_up (va_up (so (sr (cS w))) 0 f) 1 t) 2 p) (va_up sr' P (sr (cS w)) k) 1 = w' (12 + 3 * k) ∧ va_up so (sr (cS w)) (va_up (va_up (va_up (so (sr (cS w))) 0 f) 1 t) 2 p) (va_up sr' P (sr (cS w)) k) 2 = w' (13 + 3 * k) := by
    intro k hk
    rw [eS] at hk
    rw [hg k (by omega)]
    unfold gP
    by_cases e : k < P
    · rw [if_pos e, up_n (fun q => by have := inj k (cS w) (by omega) (by omega) q; omega)]
      have x0 := b4 k e 0 (by omega)
      have x1 := b4 k e 1 (by omega)
      have x2 := b4 k e 2 (by omega)
      rw [show 12 + 3 * k = 11 + 3 * k + 1 by omega, show 13 + 3 * k = 11 + 3 * k + 2 by omega, x1, x2, show 11 + 3 * k = 11 + 3 * k + 0 by omega, x0]
      have := sp k (by omega)
      rw [show 12 + 3 * k = 11 + 3 * k + 0 + 1 by omega, show 13 + 3 * k = 11 + 3 * k + 0 + 2 by omega] at this
      exact this
    rw [if_neg e]
    by_cases e2 : k = P
    · subst e2; rw [if_pos rfl, up_s]; exact ⟨b5.symm, b6.symm, b7.symm⟩
    rw [if_neg e2, if_pos (by omega), up_n (fun q => by have := inj (k - 1) (cS w) (by omega) (by omega) q; omega)]
    have x0 := b8 (k - 1) (by omega) (by omega) 0 (by omega)
    have x1 := b8 (k - 1) (by omega) (by omega) 1 (by omega)
    have x2 := b8 (k - 1) (by omega) (by omega) 2 (by omega)
    rw [show 11 + 3 * (k - 1 + 1) + 0 = 11 + 3 * k by omega] at x0
    rw [show 11 + 3 * (k - 1 + 1) + 1 = 12 + 3 * k by omega] at x1
    rw [show 11 + 3 * (k - 1 + 1) + 2 = 13 + 3 * k by omega] at x2
    rw [x0, x1, x2]
    have := sp (k - 1) (by omega)
    rw [show 12 + 3 * (k - 1) = 11 + 3 * (k - 1) + 1 by omega, show 13 + 3 * (k - 1) = 11 + 3 * (k - 1) + 2 by omega] at this
    exact this
  have hSp : SpnR w' (va_up pi 5 (pi 5 + 1)) (va_up sr' P (sr (cS w))) (va_up so (sr (cS w)) (va_up (va_up (va_up (so (sr (cS w))) 0 f) 1 t) 2 p)) := ⟨by rw [up_s, c3, b3], s8', hsp⟩
  obtain ⟨qo2, e1, f1, f2⟩ := c_recount (w := w') (tm := tm) (qo := qo) (tl := tl) (f := PB po (va_up pi 5 (pi 5 + 1)) tm (va_up sr' P (sr (cS w))) (va_up so (sr (cS w)) (va_up (va_up (va_up (so (sr (cS w))) 0 f) 1 t) 2 p)) qo tl F) PB_plf hSp hc' (n := cP w) (by rw [up_n (by decide), c5]; exact hP.1) hP.2
  rw [e1, bs, pb1, bs, PB_PB]
  refine ⟨_, _, _, qo2, rfl, ⟨⟨?_, ?_, ?_, ?_, ?_, ?_, ?_⟩, ?_, s8', hsp⟩, ?_, YrR_cg hy (b1 5 (by omega) (by omega)) (fun j hj => b2 j (by omega)), inj'⟩
  · rw [up_n (by decide), up_n (by decide), b1 0 (by omega) (by omega)]; exact c0
  · rw [up_n (by decide), up_n (by decide), b1 1 (by omega) (by omega)]; exact c1
  · rw [up_n (by decide), up_n (by decide), b1 2 (by omega) (by omega)]; exact c2
  · rw [up_n (by decide), up_s, c3, b3]
  · rw [up_s]
  · rw [up_n (by decide), up_n (by decide), b1 4 (by omega) (by omega)]; exact c5
  · rw [up_n (by decide), up_n (by decide), b1 5 (by omega) (by omega)]; exact c6
  · intro i hi; rw [b1 (6 + i) (by omega) (by omega)]; exact tmr i hi
  · intro k hk
    rw [eP] at hk
    obtain ⟨q0, q1, q2, q3, q4, q5, q6, q7, q8⟩ := hQ k hk
    refine ⟨?_, ?_, ?_, ?_, ?_, ?_, ?_, ?_, ?_⟩
    · rw [f1 k 0 (by decide), b2 _ (by omega)]; exact q0
    · rw [f1 k 1 (by decide), b2 _ (by omega)]; exact q1
    · rw [f1 k 2 (by decide), b2 _ (by omega)]; exact q2
    · rw [f1 k 3 (by decide), b2 _ (by omega)]; exact q3
    · rw [f1 k 4 (by decide), b2 _ (by omega)]; exact q4
    · rw [f1 k 5 (by decide), b2 _ (by omega)]; exact q5
    · rw [f1 k 6 (by decide), b2 _ (by omega)]; exact q6
    · rw [f1 k 7 (by decide), b2 _ (by omega)]; exact q7
    · rw [f2 k hk]; unfold wed
      rw [b2 _ (by omega), b2 _ (by omega), q1, q2]
theorem c_serve (h : PlF F po pi tm sr so qo tl) (hr : PlnR w pi tm sr so qo tl) (hv : Vld w) (h8 : cS w < 8) (f t p : Int32) : (svK w f t = 0 ∧ fnX3_serve F po f t p = some (0, F)) ∨ (svK w f t = 1 ∧ ∃ pi' sr' so' qo', fnX3_serve F po f t p = some (1, PB po pi' tm sr' so' qo' tl F) ∧ PlnR (srvW w f t p) pi' tm sr' so' qo' tl) := by
  have h5 : pi 5 = nI (cS w) := by rw [hr.1.1.2.2.2.1]; exact hv.1.1.1
  have hS := c_service h hr.1 hv.c (a := f) (b := t)
  unfold fnX3_serve fX3_serve_22 fX3_serve_40 fX3_serve_49 svK
  rw [p_is h, bs, p_g5 h, bs, h5, if_neg (show ¬ (8 : Int32) ≤ nI (cS w) by rw [show (8 : Int32) = nI 8 from rfl, nI_leI (by decide) (by omega)]; omega), p_g0 h, bs, hr.1.1.1, p_g1 h, bs, hr.1.1.2.1, pb0, bs, bs, hS, bs]
  by_cases c1 : t ≤ f
  · rw [if_pos c1, if_pos c1]; exact Or.inl ⟨rfl, rfl⟩
  rw [if_neg c1, if_neg c1]
  by_cases c2 : f < w 0
  · rw [if_pos c2, if_neg (show ¬ w 0 ≤ f by rw [i32_lt] at c2; rw [i32_le]; omega)]; exact Or.inl ⟨rfl, rfl⟩
  rw [if_neg c2, if_pos (show w 0 ≤ f by rw [i32_lt] at c2; rw [i32_le]; omega)]
  by_cases c3 : 0 < svc w f t
  · rw [if_pos c3, if_neg (show ¬ svc w f t ≤ 0 by rw [i32_lt] at c3; rw [i32_le]; omega)]
    left; refine ⟨rfl, ?_⟩
    by_cases c4 : w 1 = -1
    · rw [if_pos c4]
    · rw [if_neg c4]; split <;> rfl
  rw [if_neg c3, if_pos (show svc w f t ≤ 0 by rw [i32_lt] at c3; rw [i32_le]; omega)]
  have go : ∃ pi' sr' so' qo', fX3_serve_68 pz_F F po f t p (po + 7 + sr (cS w)) (nI (cS w)) = some (1, PB po pi' tm sr' so' qo' tl F) ∧ PlnR (srvW w f t p) pi' tm sr' so' qo' tl := by
    obtain ⟨sr1, e1, e2⟩ := c_serve68 (po := po) (F := F) (t := t) (p := p) (f := f) hr hv h8 pz_F (cS w) sr (by omega) (by unfold pz_F; omega) ⟨fun _ _ => rfl, fun i a b => by omega, fun _ _ _ => rfl⟩ (fun i a b => by omega)
    rw [h.pb] at e1
    obtain ⟨pi', sr2, so', qo', e3, e4⟩ := c_serveEnd (po := po) (F := F) (t := t) (p := p) hr hv h8 e2
    exact ⟨pi', sr2, so', qo', by rw [e1, e3], e4⟩
  by_cases c4 : w 1 = -1
  · rw [if_pos c4, if_pos c4, p_r4 h, bs, bs, p_sr h rfl h8, bs, bs]; exact Or.inr ⟨rfl, go⟩
  rw [if_neg c4, if_neg c4]
  by_cases c5 : t ≤ w 1
  · rw [if_pos c5, if_neg (show ¬ w 1 < t by rw [i32_le] at c5; rw [i32_lt]; omega), p_r4 h, bs, bs, p_sr h rfl h8, bs, bs]; exact Or.inr ⟨rfl, go⟩
  · rw [if_neg c5, if_pos (show w 1 < t by rw [i32_le] at c5; rw [i32_lt]; omega)]; exact Or.inl ⟨rfl, rfl⟩
end CW
