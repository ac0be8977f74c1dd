/-! ===== the class's table of lives: tellYear ===== -/
section CY
variable {po : Nat} {w pi tm : Nat → Int32} {sr : Nat → Nat} {so qo tl : Nat → Nat → Int32} {f : pz_H}
def RmI (tl tl' : Nat → Nat → Int32) (n k : Nat) : Prop := ∀ c, c < 2 → (∀ i, i < k → tl' c i = tl c i) ∧ ∀ i, k ≤ i → i < n → tl' c (i + 1) = tl c i
theorem c_room_loop {n p : Nat} (h9 : pi 9 = nI n) (hn : n < 10) (hp : p ≤ n) : ∀ (N k : Nat) (tl' : Nat → Nat → Int32), p ≤ k → k ≤ n → k < N → RmI tl tl' n k → ∃ tl'', fX2_makeRoom_5 N (PB po pi tm sr so qo tl' f) (po + 4) (nI p) (nI k) = some (PB po (va_up pi 9 (nI (n + 1))) tm sr so qo tl'' f) ∧ RmI tl tl'' n p := by
  intro N
  induction N with
  | zero => intro k _ _ _ hh; omega
  | succ N ih =>
    intro k tl' hpk hk hN hI
    show ∃ tl'', fX2_makeRoom_5b _ _ _ _ _ = _ ∧ _
    unfold fX2_makeRoom_5b
    by_cases c : k = p
    · subst c
      rw [if_pos (Int32.le_refl _), p_t2 PB_plf, bs, h9, nI_1, p_w9 PB_plf, bs, PB_PB]
      exact ⟨tl', rfl, hI⟩
    · have e2 : nI k + (-1) = nI (k - 1) := by rw [← pred_nI (by omega), Int32.sub_eq_add_neg]
      rw [if_neg (by rw [nI_leI (by omega) (by omega)]; omega), p_t0 PB_plf, bs, bs, pred_nI (by omega), p_ys PB_plf (k := k - 1) rfl (by omega), bs, p_wy PB_plf (k := k) rfl (by omega), bs, PB_PB, p_t1 PB_plf, bs, bs, p_ls PB_plf (k := k - 1) rfl (by omega), bs, p_wl PB_plf (k := k) rfl (by omega), bs, PB_PB, e2]
      refine ih (k - 1) _ (by omega) (by omega) (by omega) (fun c hc => ?_)
      have two : c = 0 ∨ c = 1 := by omega
      obtain ⟨i1, i2⟩ := hI c hc
      have val : ∀ i, va_up (va_up tl' 0 (upd (tl' 0) k (tl' 0 (k - 1)))) 1 (upd (va_up tl' 0 (upd (tl' 0) k (tl' 0 (k - 1))) 1) k (va_up tl' 0 (upd (tl' 0) k (tl' 0 (k - 1))) 1 (k - 1))) c i = if i = k then tl' c (k - 1) else tl' c i := by
        intro i
        rcases two with e | e
        · subst e; rw [up_n (by decide), up_s]
          by_cases d : i = k
          · subst d; rw [upd_s, if_pos rfl]
          · rw [upd_n d, if_neg d]
        · subst e; rw [up_s, up_n (show (1 : Nat) ≠ 0 by decide)]
          by_cases d : i = k
          · subst d; rw [upd_s, if_pos rfl]
          · rw [upd_n d, if_neg d]
      refine ⟨fun i hi => ?_, fun i h1 h2 => ?_⟩
      · rw [val, if_neg (by omega)]; exact i1 i (by omega)
      · rw [val]
        by_cases d : i = k - 1
        · subst d; rw [if_pos (by omega)]; exact i1 _ (by omega)
        · rw [if_neg (by omega)]; exact i2 i (by omega) h2
theorem c_room {n p : Nat} (h : PlF f po pi tm sr so qo tl) (h9 : pi 9 = nI n) (hn : n < 10) (hp : p ≤ n) : ∃ tl', fnX2_makeRoom f (po + 4) (nI p) = some (PB po (va_up pi 9 (nI (n + 1))) tm sr so qo tl' f) ∧ RmI tl tl' n p := by
  unfold fnX2_makeRoom
  rw [p_tis h, bs, p_t2 h, bs, h9]
  have := c_room_loop (po := po) (tm := tm) (sr := sr) (so := so) (qo := qo) (tl := tl) (f := f) h9 hn hp pz_F n tl hp (by omega) (by unfold pz_F; omega) (fun c hc => ⟨fun _ _ => rfl, fun i a b => by omega⟩)
  rw [h.pb] at this; exact this
theorem c_tell_loop (h : PlF f po pi tm sr so qo tl) (hr : PlnR w pi tm sr so qo tl) (hv : Vld w) {y v : Int32} : ∀ (N i : Nat), i ≤ cY w → cY w - i < N → (∀ j, j < i → (tl 0 j).toInt < y.toInt) → ∃ p, fX2_tellYear_2 N f (po + 4) y v (nI i) = fX2_tellYear_26 f (po + 4) y v (nI p) ∧ p ≤ cY w ∧ (∀ j, j < p → (tl 0 j).toInt < y.toInt) ∧ (p < cY w → y.toInt ≤ (tl 0 p).toInt) := by
  have h9 : pi 9 = nI (cY w) := by rw [hr.1.1.2.2.2.2.2.2]; exact hv.1.2.2.1
  have h10 := hv.1.2.2.2
  intro N
  induction N with
  | zero => intro i _ hh; omega
  | succ N ih =>
    intro i hi hN hj
    show ∃ p, fX2_tellYear_2b _ _ _ _ _ _ = _ ∧ _
    unfold fX2_tellYear_2b
    rw [p_t2 h, bs, h9]
    by_cases c : i = cY w
    · rw [if_pos (by rw [c]; exact Int32.le_refl _)]
      exact ⟨i, rfl, hi, hj, fun q => by omega⟩
    rw [if_neg (by rw [nI_leI (by omega) (by omega)]; omega), p_t0 h, bs, p_ys h (k := i) rfl (by omega), bs]
    by_cases d : y ≤ tl 0 i
    · rw [if_pos d]; rw [i32_le] at d
      exact ⟨i, rfl, hi, hj, fun _ => d⟩
    · rw [if_neg d, nI_1]; rw [i32_le] at d
      refine ih (i + 1) (by omega) (by omega) (fun j hj' => ?_)
      by_cases e : j = i
      · subst e; omega
      · exact hj j (by omega)
theorem c_tellYear (h : PlF f po pi tm sr so qo tl) (hr : PlnR w pi tm sr so qo tl) (hv : Vld w) {y v : Int32} (hz : 0 ≤ v.toInt ∧ v.toInt ≤ 100000) : (tyK w y v = 0 ∧ fnX2_tellYear f (po + 4) y v = some (0, f)) ∨ (tyK w y v = 1 ∧ ∃ pi' tl', fnX2_tellYear f (po + 4) y v = some (1, PB po pi' tm sr so qo tl' f) ∧ PlnR (livW w (lfS w y v (cY w)).1 y v) pi' tm sr so qo tl') := by
  have h9 : pi 9 = nI (cY w) := by rw [hr.1.1.2.2.2.2.2.2]; exact hv.1.2.2.1
  have h10 := hv.1.2.2.2
  have x100 : (100000 : Int32).toInt = 100000 := rfl
  obtain ⟨-, -, -, -, -, -, -, -, -, -, -, -, -, yb, yd, yf⟩ := id hv
  have hy := hr.2.2.1
  obtain ⟨y1, y2, y3⟩ := id hy
  obtain ⟨p, e1, p1, p2, p3⟩ := c_tell_loop h hr hv (y := y) (v := v) pz_F 0 (by omega) (by unfold pz_F; omega) (fun j hj => by omega)
  unfold fnX2_tellYear
  rw [p_tis h, bs, show (0 : Int32) = nI 0 from rfl, e1]
  -- what the neighbours say is what all say
  have hL : ∀ i j, i < cY w → j < cY w → (tl 0 i).toInt < (tl 0 j).toInt → (tl 1 j).toInt ≤ (tl 1 i).toInt := by
    intro i j hi hj q
    obtain ⟨a, a1, a2, a3⟩ := y2 i hi
    obtain ⟨b, b1, b2, b3⟩ := y2 j hj
    rw [a2, b2] at q
    rw [a3, b3]; exact yf a b a1 b1 q
  have hLb : ∀ i, i < cY w → 0 ≤ (tl 1 i).toInt ∧ (tl 1 i).toInt ≤ 100000 := by
    intro i hi
    obtain ⟨a, a1, a2, a3⟩ := y2 i hi
    rw [a3]; exact (yb a a1).2
  -- all years let LIVES fall, by the sorted table
  have all1 : (∀ i, i < cY w → ((tl 0 i).toInt < y.toInt → v.toInt ≤ (tl 1 i).toInt) ∧ (y.toInt < (tl 0 i).toInt → (tl 1 i).toInt ≤ v.toInt)) → (lfS w y v (cY w)).2 = 1 := by
    intro hh
    apply lfS_1
    intro j hj
    obtain ⟨i, i1, i2, i3⟩ := y3 j hj
    have := hh i i1
    rw [i2, i3] at this
    exact lfC_1 this.1 this.2
  have all2 : ¬ (lfS w y v (cY w)).2 = 0 → ∀ i, i < cY w → ((tl 0 i).toInt < y.toInt → v.toInt ≤ (tl 1 i).toInt) ∧ (y.toInt < (tl 0 i).toInt → (tl 1 i).toInt ≤ v.toInt) := by
    intro hh i hi
    obtain ⟨j, j1, j2, j3⟩ := y2 i hi
    have := lfC_of (lfS_of (w := w) (y := y) (v := v) (cY w) hh j j1)
    rw [j2, j3]; exact this
  have hat := lfS_at (w := w) (y := y) (v := v) (cY w)
  have hsl := lfS_le (w := w) (y := y) (v := v) (cY w) (Nat.le_refl _)
  -- the most and the least
  have go : ∀ (a : Int32) (nx : Nat), (a = 1 ∧ p < cY w ∧ tl 0 p = y ∧ nx = p + 1) ∨ (a = 0 ∧ (∀ i, i < cY w → ¬ tl 0 i = y) ∧ nx = p) → (tyK w y v = 0 ∧ fX2_tellYear_63 f (po + 4) y v (nI p) a (nI nx) = some (0, f)) ∨ (tyK w y v = 1 ∧ ∃ pi' tl', fX2_tellYear_63 f (po + 4) y v (nI p) a (nI nx) = some (1, PB po pi' tm sr so qo tl' f) ∧ PlnR (livW w (lfS w y v (cY w)).1 y v) pi' tm sr so qo tl') := by
    intro a nx ha
    have hnx : nx ≤ cY w ∧ p ≤ nx := by rcases ha with ⟨_, _, _, _⟩ | ⟨_, _, _⟩ <;> omega
    have hup : ∀ i, nx ≤ i → i < cY w → y.toInt < (tl 0 i).toInt := by
      intro i h1 h2
      have hpi := p3 (by omega)
      rcases ha with ⟨_, q1, q2, q3⟩ | ⟨_, q1, q2⟩
      · have := ys_lt' hy (show p < i by omega) h2
        rw [q2] at this; exact this
      · have hle : (tl 0 p).toInt ≤ (tl 0 i).toInt := by
          by_cases e : i = p
          · rw [e]; exact Int.le_refl _
          · have := ys_lt' hy (show p < i by omega) h2; omega
        have : ¬ (tl 0 i).toInt = y.toInt := fun z => q1 i h2 (i32_eq.mpr z)
        omega
    have hmid : ∀ i, p ≤ i → i < nx → (tl 0 i).toInt = y.toInt := by
      intro i h1 h2
      rcases ha with ⟨_, q1, q2, q3⟩ | ⟨_, q1, q2⟩
      · have : i = p := by omega
        rw [this, q2]
      · omega
    -- the value of the two bounds
    have hmost : (if p = 0 then (100000 : Int32) else tl 1 (p - 1)).toInt < v.toInt → (lfS w y v (cY w)).2 = 0 := by
      intro hm
      apply Classical.byContradiction; intro hh
      by_cases c : p = 0
      · rw [if_pos c] at hm; omega
      · rw [if_neg c] at hm
        have := (all2 hh (p - 1) (by omega)).1 (p2 _ (by omega)); omega
    have hleast : v.toInt < (if nx = cY w then (0 : Int32) else tl 1 nx).toInt → (lfS w y v (cY w)).2 = 0 := by
      intro hm
      apply Classical.byContradiction; intro hh
      by_cases c : nx = cY w
      · rw [if_pos c, z32] at hm; omega
      · rw [if_neg c] at hm
        have := (all2 hh nx (by omega)).2 (hup nx (by omega) (by omega)); omega
    have hfit : ¬ (if p = 0 then (100000 : Int32) else tl 1 (p - 1)).toInt < v.toInt → ¬ v.toInt < (if nx = cY w then (0 : Int32) else tl 1 nx).toInt → (lfS w y v (cY w)).2 = 1 := by
      intro hm hl
      apply all1
      intro i hi
      refine ⟨fun q => ?_, fun q => ?_⟩
      · have hip : i < p := by
          apply Classical.byContradiction; intro z
          by_cases c : i < nx
          · have := hmid i (by omega) c; omega
          · have := hup i (by omega) hi; omega
        rw [if_neg (show ¬ p = 0 by omega)] at hm
        by_cases e : i = p - 1
        · rw [e]; omega
        · have := hL i (p - 1) hi (by omega) (ys_lt' hy (by omega) (by omega)); omega
      · have hin : nx ≤ i := by
          apply Classical.byContradiction; intro z
          by_cases c : p ≤ i
          · have := hmid i c (by omega); omega
          · have := p2 i (by omega); omega
        rw [if_neg (show ¬ nx = cY w by omega)] at hl
        by_cases e : i = nx
        · rw [e]; omega
        · have := hL nx i (by omega) hi (ys_lt' hy (by omega) hi); omega
    -- the reads
    have r1 : fX2_tellYear_63 f (po + 4) y v (nI p) a (nI nx) = fX2_tellYear_104 f (po + 4) y v (nI p) a (if p = 0 then 100000 else tl 1 (p - 1)) (if nx = cY w then 0 else tl 1 nx) := by
      unfold fX2_tellYear_63 fX2_tellYear_82
      simp only [p_t1 h, p_t2 h, bs, h9]
      have r2 : ∀ x : Int32, (if nI (cY w) ≤ nI nx then fX2_tellYear_104 f (po + 4) y v (nI p) a x 0 else (pz_aI f (po + 6) 0 (nI nx)).bind fun v3 => fX2_tellYear_104 f (po + 4) y v (nI p) a x v3) = fX2_tellYear_104 f (po + 4) y v (nI p) a x (if nx = cY w then 0 else tl 1 nx) := by
        intro x
        by_cases c : nx = cY w
        · rw [if_pos (by rw [c]; exact Int32.le_refl _), if_pos c]
        · rw [if_neg (by rw [nI_leI (by omega) (by omega)]; omega), if_neg c, p_ls h (k := nx) rfl (by omega), bs]
      by_cases c : p = 0
      · rw [if_pos (show nI p = 0 by rw [c]; rfl), if_pos c, r2]
      · rw [if_neg (nI_ne0 (by omega) (by omega)), if_neg c, pred_nI (by omega), p_ls h (k := p - 1) rfl (by omega), bs, r2]
    rw [r1]
    unfold fX2_tellYear_104 fX2_tellYear_132 fX2_tellYear_134 tyK
    rw [pb0, bs, p_t2 h, bs, h9]
    by_cases c1 : (if p = 0 then (100000 : Int32) else tl 1 (p - 1)) < v
    · rw [if_pos c1]; rw [i32_lt] at c1
      rw [if_pos (hmost c1)]; exact Or.inl ⟨rfl, rfl⟩
    rw [if_neg c1]; rw [i32_lt] at c1
    by_cases c2 : v < (if nx = cY w then (0 : Int32) else tl 1 nx)
    · rw [if_pos c2]; rw [i32_lt] at c2
      rw [if_pos (hleast c2)]; exact Or.inl ⟨rfl, rfl⟩
    rw [if_neg c2]; rw [i32_lt] at c2
    rw [hfit c1 c2, if_neg one_0]
    rcases ha with ⟨q0, q1, q2, q3⟩ | ⟨q0, q1, q2⟩
    · -- anew
      obtain ⟨j, j1, j2, j3⟩ := y2 p q1
      have hs : (lfS w y v (cY w)).1 < cY w ∧ w (67 + 2 * (lfS w y v (cY w)).1) = y := by
        rcases hat with ⟨b1, b2⟩ | b
        · exact absurd (j2.symm.trans q2) (b2 j j1)
        · exact b
      rw [q0, if_neg one_0, if_neg one_0, if_neg (show ¬ (lfS w y v (cY w)).1 = 10 by omega)]
      unfold fX2_tellYear_144
      rw [p_t0 h, bs, p_wy h (k := p) rfl (by omega), bs, p_t1 PB_plf, bs, p_wl PB_plf (k := p) rfl (by omega), bs, PB_PB, pb1, bs]
      right; refine ⟨rfl, pi, _, rfl, ?_⟩
      have key := PlnR_liv (tl' := va_up (va_up tl 0 (upd (tl 0) p y)) 1 (upd (va_up tl 0 (upd (tl 0) p y) 1) p v)) hr hv hsl (x := pi 9) (y := y) (v := v) (by rw [if_neg (by omega), Int32.add_zero]; exact hr.1.1.2.2.2.2.2.2) ?_
      · rw [up_id] at key; exact key
      · rw [up_n (show (0 : Nat) ≠ 1 by decide), up_s, up_s, up_n (show (1 : Nat) ≠ 0 by decide)]
        exact YrR_anew hv hy hs.1 hs.2 q1 q2
    · -- new
      have hs : (lfS w y v (cY w)).1 = cY w := by
        rcases hat with ⟨b1, b2⟩ | ⟨b1, b2⟩
        · exact b1
        · exfalso
          obtain ⟨i, i1, i2, i3⟩ := y3 _ b1
          exact q1 i i1 (i2.trans b2)
      rw [q0, if_pos rfl, hs]
      by_cases c3 : cY w = 10
      · rw [if_neg (show ¬ nI (cY w) < 10 by rw [c3]; decide), if_pos c3]; exact Or.inl ⟨rfl, rfl⟩
      rw [if_pos (show nI (cY w) < 10 by rw [show (10 : Int32) = nI 10 from rfl, nI_ltI (by omega) (by decide)]; omega), if_neg c3, if_pos rfl]
      obtain ⟨tl1, e2, e3⟩ := c_room h h9 (by omega) p1
      unfold fX2_tellYear_144
      rw [e2, bs, p_t0 PB_plf, bs, p_wy PB_plf (k := p) rfl (by omega), bs, PB_PB, p_t1 PB_plf, bs, p_wl PB_plf (k := p) rfl (by omega), bs, PB_PB, pb1, bs]
      right; refine ⟨rfl, _, _, rfl, ?_⟩
      refine PlnR_liv hr hv (Nat.le_refl _) (by rw [if_pos rfl, hv.1.2.2.1, nI_1]) ?_
      rw [up_n (show (0 : Nat) ≠ 1 by decide), up_s, up_s, up_n (show (1 : Nat) ≠ 0 by decide)]
      obtain ⟨t1, t2⟩ := e3 0 (by decide)
      obtain ⟨t3, t4⟩ := e3 1 (by decide)
      refine YrR_new hv hy (by omega) p1 p2 (fun i a b => hup i (by omega) b) (fun i hi => ?_) ⟨upd_s, upd_s⟩ (fun i a b => ?_)
      · rw [upd_n (by omega), upd_n (by omega)]; exact ⟨t1 i hi, t3 i hi⟩
      · rw [upd_n (by omega), upd_n (by omega)]; exact ⟨t2 i a b, t4 i a b⟩
  unfold fX2_tellYear_26 fX2_tellYear_48 fX2_tellYear_49
  rw [p_t2 h, bs, h9, if_pos rfl, if_neg one_0]
  by_cases c : p = cY w
  · rw [if_pos (by rw [c]; exact Int32.le_refl _)]
    refine go 0 p (Or.inr ⟨rfl, fun i hi q => ?_, rfl⟩)
    have := p2 i (by omega); rw [q] at this; omega
  rw [if_neg (by rw [nI_leI (by omega) (by omega)]; omega), p_t0 h, bs, p_ys h (k := p) rfl (by omega), bs]
  by_cases d : tl 0 p = y
  · rw [if_pos d, nI_1]
    exact go 1 (p + 1) (Or.inl ⟨rfl, by omega, d, rfl⟩)
  · rw [if_neg d]
    refine go 0 p (Or.inr ⟨rfl, fun i hi q => ?_, rfl⟩)
    rcases Nat.lt_trichotomy i p with z | z | z
    · have := p2 i z; rw [q] at this; omega
    · subst z; exact d q
    · have := ys_lt' hy z hi
      have := p3 (by omega)
      rw [q] at *; omega
end CY
