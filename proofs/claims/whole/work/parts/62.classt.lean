/-! ===== the class's plan: a copy ===== -/
section CT
variable {po p1 : Nat} {w pi tm pi1 tm1 : Nat → Int32} {sr sr1 : Nat → Nat} {so qo tl so1 qo1 tl1 : Nat → Nat → Int32} {f : pz_H}
theorem PlF.pb2 (h : PlF f p1 pi1 tm1 sr1 so1 qo1 tl1) (hd : po + 19 ≤ p1 ∨ p1 + 19 ≤ po) : PlF (PB po pi tm sr so qo tl f) p1 pi1 tm1 sr1 so1 qo1 tl1 := fun o ho => by
  unfold PB; rw [BU_ne (by omega)]; exact h o ho
theorem c_cpTab_loop (h1 : PlF f p1 pi1 tm1 sr1 so1 qo1 tl1) (hd : po + 19 ≤ p1 ∨ p1 + 19 ≤ po) {n : Nat} (h9 : pi 9 = nI n) (hn : n ≤ 10) : ∀ (N i : Nat) (tl : Nat → Nat → Int32), i ≤ n → n - i < N → (∀ k, k < i → tl 0 k = tl1 0 k ∧ tl 1 k = tl1 1 k) → ∃ tl', fX2_copyFrom_10 N (PB po pi tm sr so qo tl f) (po + 4) (p1 + 4) (nI i) = some (PB po pi tm sr so qo tl' f) ∧ ∀ k, k < n → tl' 0 k = tl1 0 k ∧ tl' 1 k = tl1 1 k := by
  intro N
  induction N with
  | zero => intro i _ _ hh; omega
  | succ N ih =>
    intro i tl hi hN hj
    show ∃ tl', fX2_copyFrom_10b _ _ _ _ _ = _ ∧ _
    unfold fX2_copyFrom_10b
    rw [p_t2 PB_plf, bs, h9]
    by_cases c : i = n
    · subst c; rw [if_pos (Int32.le_refl _)]; exact ⟨tl, rfl, hj⟩
    · rw [if_neg (by rw [nI_leI (by omega) (by omega)]; omega), p_t0 PB_plf, bs, p_t0 (h1.pb2 hd), bs, p_ys (h1.pb2 hd) rfl (by omega), bs, p_wy PB_plf rfl (by omega), bs, PB_PB, p_t1 PB_plf, bs, p_t1 (h1.pb2 hd), bs, p_ls (h1.pb2 hd) rfl (by omega), bs, p_wl PB_plf rfl (by omega), bs, PB_PB, nI_1]
      refine ih (i + 1) _ (by omega) (by omega) (fun k hk => ?_)
      rw [up_n (show (0 : Nat) ≠ 1 by decide), up_s, up_s, up_n (show (1 : Nat) ≠ 0 by decide)]
      by_cases e : k = i
      · subst e; rw [upd_s, upd_s]; exact ⟨rfl, rfl⟩
      · rw [upd_n e, upd_n e]; exact hj k (by omega)
theorem c_cpTab (h : PlF f po pi tm sr so qo tl) (h1 : PlF f p1 pi1 tm1 sr1 so1 qo1 tl1) (hd : po + 19 ≤ p1 ∨ p1 + 19 ≤ po) {n : Nat} (h9 : pi1 9 = nI n) (hn : n ≤ 10) : ∃ tl', fnX2_copyFrom f (po + 4) (p1 + 4) = some (PB po (va_up pi 9 (nI n)) tm sr so qo tl' f) ∧ ∀ k, k < n → tl' 0 k = tl1 0 k ∧ tl' 1 k = tl1 1 k := by
  unfold fnX2_copyFrom
  rw [p_tis h, bs, p_t2 h1, bs, h9, p_w9 h, bs]
  exact c_cpTab_loop h1 hd up_s hn pz_F 0 tl (by omega) (by unfold pz_F; omega) (fun k hk => by omega)
theorem c_cpSpo (h : PlF f po pi tm sr so qo tl) (h1 : PlF f p1 pi1 tm1 sr1 so1 qo1 tl1) (hd : po + 19 ≤ p1 ∨ p1 + 19 ≤ po) {i : Nat} (hi : i < 4) : ∃ q, fnX7_copyFrom f (po + 15 + i) (p1 + 15 + i) = some (PB po pi tm sr so (va_up qo i q) tl f) ∧ ∀ o, o < 9 → q o = qo1 i o := by
  unfold fnX7_copyFrom
  have hs := h1.cq hi
  have hs' : ∀ {qo}, SpF (PB po pi tm sr so qo tl f) (p1 + 15 + i) (qo1 i) := fun {qo} => (h1.pb2 hd).cq hi
  rw [q_is (h.cq hi), bs, q_g0 hs, bs, p_wq0 h hi, bs, q_g1 hs', bs, p_wq1 PB_plf hi, bs, PB_PB, up_s, up_up, q_g2 hs', bs, p_wq2 PB_plf hi, bs, PB_PB, up_s, up_up, q_g3 hs', bs, p_wq3 PB_plf hi, bs, PB_PB, up_s, up_up, q_g4 hs', bs, p_wq4 PB_plf hi, bs, PB_PB, up_s, up_up, q_g5 hs', bs, p_wq5 PB_plf hi, bs, PB_PB, up_s, up_up, q_g6 hs', bs, p_wq6 PB_plf hi, bs, PB_PB, up_s, up_up, q_g7 hs', bs, p_wq7 PB_plf hi, bs, PB_PB, up_s, up_up, q_g8 hs', bs, p_wq8 PB_plf hi, bs, PB_PB, up_s, up_up]
  refine ⟨_, rfl, fun o ho => ?_⟩
  match o, ho with
  | 0, _ => rfl
  | 1, _ => rfl
  | 2, _ => rfl
  | 3, _ => rfl
  | 4, _ => rfl
  | 5, _ => rfl
  | 6, _ => rfl
  | 7, _ => rfl
  | 8, _ => rfl
theorem c_cpSpn (h : PlF f po pi tm sr so qo tl) (h1 : PlF f p1 pi1 tm1 sr1 so1 qo1 tl1) (hd : po + 19 ≤ p1 ∨ p1 + 19 ≤ po) {i j : Nat} (hi : i < 8) (hj : j < 8) : ∃ q, fnX6_copyFrom f (po + 7 + i) (p1 + 7 + j) = some (PB po pi tm sr (va_up so i q) qo tl f) ∧ ∀ o, o < 3 → q o = so1 j o := by
  unfold fnX6_copyFrom
  rw [p_sis h hi, bs, p_s0g h1 hj, bs, p_ws0 h hi, bs, p_s1g (h1.pb2 hd) hj, bs, p_ws1 PB_plf hi, bs, PB_PB, up_s, up_up, p_s2g (h1.pb2 hd) hj, bs, p_ws2 PB_plf hi, bs, PB_PB, up_s, up_up]
  refine ⟨_, rfl, fun o ho => ?_⟩
  match o, ho with
  | 0, _ => rfl
  | 1, _ => rfl
  | 2, _ => rfl
theorem c_cp106 (h1 : PlF f p1 pi1 tm1 sr1 so1 qo1 tl1) (hd : po + 19 ≤ p1 ∨ p1 + 19 ≤ po) {n y : Nat} (h8 : pi 8 = nI n) (hn : n ≤ 4) (h9 : pi1 9 = nI y) (hy : y ≤ 10) : ∀ (N i : Nat) (qo : Nat → Nat → Int32), i ≤ n → n - i < N → (∀ k, k < i → ∀ o, o < 9 → qo k o = qo1 k o) → ∃ qo' tl', fX3_copyFrom_106 N (PB po pi tm sr so qo tl f) po p1 (nI i) = some (PB po (va_up pi 9 (nI y)) tm sr so qo' tl' f) ∧ (∀ k, k < n → ∀ o, o < 9 → qo' k o = qo1 k o) ∧ ∀ k, k < y → tl' 0 k = tl1 0 k ∧ tl' 1 k = tl1 1 k := by
  intro N
  induction N with
  | zero => intro i _ _ hh; omega
  | succ N ih =>
    intro i qo hi hN hj
    show ∃ qo' tl', fX3_copyFrom_106b _ _ _ _ _ = _ ∧ _
    unfold fX3_copyFrom_106b
    rw [p_g8 PB_plf, bs, h8]
    by_cases c : i = n
    · subst c
      obtain ⟨tl', e1, e2⟩ := c_cpTab (po := po) (PB_plf (po := po) (pi := pi) (tm := tm) (sr := sr) (so := so) (qo := qo) (tl := tl) (f := f)) (h1.pb2 hd) hd h9 hy
      rw [if_pos (Int32.le_refl _), p_r9 PB_plf, bs, p_r9 (h1.pb2 hd), bs, e1, bs, PB_PB]
      exact ⟨qo, tl', rfl, hj, e2⟩
    · obtain ⟨q, e1, e2⟩ := c_cpSpo (po := po) (i := i) (PB_plf (po := po) (pi := pi) (tm := tm) (sr := sr) (so := so) (qo := qo) (tl := tl) (f := f)) (h1.pb2 hd) hd (by omega)
      rw [if_neg (by rw [nI_leI (by omega) (by omega)]; omega), p_r7 PB_plf, bs, p_qr PB_plf (k := i) rfl (by omega), bs, p_r7 (h1.pb2 hd), bs, p_qr (h1.pb2 hd) (k := i) rfl (by omega), bs, e1, bs, PB_PB, nI_1]
      refine ih (i + 1) _ (by omega) (by omega) (fun k hk o ho => ?_)
      by_cases e : k = i
      · subst e; rw [up_s]; exact e2 o ho
      · rw [up_n e]; exact hj k (by omega) o ho
theorem c_cp67 (h1 : PlF f p1 pi1 tm1 sr1 so1 qo1 tl1) (hd : po + 19 ≤ p1 ∨ p1 + 19 ≤ po) (s8 : ∀ i, i < 8 → sr i < 8) (inj : ∀ i j, i < 8 → j < 8 → sr i = sr j → i = j) (s81 : ∀ i, i < 8 → sr1 i < 8) {c n y : Nat} (h5 : pi 5 = nI c) (hc : c ≤ 8) (h8 : pi1 8 = nI n) (hn : n ≤ 4) (h9 : pi1 9 = nI y) (hy : y ≤ 10) : ∀ (N i : Nat) (so : Nat → Nat → Int32), i ≤ c → c - i < N → (∀ k, k < i → ∀ o, o < 3 → so (sr k) o = so1 (sr1 k) o) → ∃ so' qo' tl', fX3_copyFrom_67 N (PB po pi tm sr so qo tl f) po p1 (nI i) = some (PB po (va_up (va_up pi 8 (nI n)) 9 (nI y)) tm sr so' qo' tl' f) ∧ (∀ k, k < c → ∀ o, o < 3 → so' (sr k) o = so1 (sr1 k) o) ∧ (∀ k, k < n → ∀ o, o < 9 → qo' k o = qo1 k o) ∧ ∀ k, k < y → tl' 0 k = tl1 0 k ∧ tl' 1 k = tl1 1 k := by
  intro N
  induction N with
  | zero => intro i _ _ hh; omega
  | succ N ih =>
    intro i so hi hN hj
    show ∃ so' qo' tl', fX3_copyFrom_67b _ _ _ _ _ = _ ∧ _
    unfold fX3_copyFrom_67b
    rw [p_g5 PB_plf, bs, h5]
    by_cases e : i = c
    · subst e
      obtain ⟨qo', tl', e1, e2⟩ := c_cp106 (po := po) (tm := tm) (sr := sr) (so := so) (tl := tl) (pi := va_up pi 8 (nI n)) h1 hd up_s hn h9 hy pz_F 0 qo (by omega) (by unfold pz_F; omega) (fun k hk => by omega)
      rw [if_pos (Int32.le_refl _), p_g8 (h1.pb2 hd), bs, h8, p_w8 PB_plf, bs, PB_PB]
      exact ⟨so, qo', tl', e1, hj, e2⟩
    · obtain ⟨q, e1, e2⟩ := c_cpSpn (po := po) (i := sr i) (j := sr1 i) (PB_plf (po := po) (pi := pi) (tm := tm) (sr := sr) (so := so) (qo := qo) (tl := tl) (f := f)) (h1.pb2 hd) hd (s8 i (by omega)) (s81 i (by omega))
      rw [if_neg (by rw [nI_leI (by omega) (by omega)]; omega), p_r4 PB_plf, bs, p_sr PB_plf (k := i) rfl (by omega), bs, p_r4 (h1.pb2 hd), bs, p_sr (h1.pb2 hd) (k := i) rfl (by omega), bs, e1, bs, PB_PB, nI_1]
      refine ih (i + 1) _ (by omega) (by omega) (fun k hk o ho => ?_)
      by_cases e : k = i
      · subst e; rw [up_s]; exact e2 o ho
      · rw [up_n (fun q => e (inj k i (by omega) (by omega) q))]; exact hj k (by omega) o ho
theorem c_cp26 (h1 : PlF f p1 pi1 tm1 sr1 so1 qo1 tl1) (hd : po + 19 ≤ p1 ∨ p1 + 19 ≤ po) (s8 : ∀ i, i < 8 → sr i < 8) (inj : ∀ i j, i < 8 → j < 8 → sr i = sr j → i = j) (s81 : ∀ i, i < 8 → sr1 i < 8) {c n y : Nat} (h5 : pi1 5 = nI c) (hc : c ≤ 8) (h8 : pi1 8 = nI n) (hn : n ≤ 4) (h9 : pi1 9 = nI y) (hy : y ≤ 10) : ∀ (N i : Nat) (tm : Nat → Int32), i ≤ 5 → 5 - i < N → (∀ k, k < i → tm k = tm1 k) → ∃ tm' so' qo' tl', fX3_copyFrom_26 N (PB po pi tm sr so qo tl f) po p1 (nI i) = some (PB po (va_up (va_up (va_up (va_up pi 5 (nI c)) 6 (pi1 6)) 8 (nI n)) 9 (nI y)) tm' sr so' qo' tl' f) ∧ (∀ k, k < 5 → tm' k = tm1 k) ∧ (∀ k, k < c → ∀ o, o < 3 → so' (sr k) o = so1 (sr1 k) o) ∧ (∀ k, k < n → ∀ o, o < 9 → qo' k o = qo1 k o) ∧ ∀ k, k < y → tl' 0 k = tl1 0 k ∧ tl' 1 k = tl1 1 k := by
  intro N
  induction N with
  | zero => intro i _ _ hh; omega
  | succ N ih =>
    intro i tm hi hN hj
    show ∃ tm' so' qo' tl', fX3_copyFrom_26b _ _ _ _ _ = _ ∧ _
    unfold fX3_copyFrom_26b
    by_cases e : i = 5
    · subst e
      rw [if_pos (by decide), p_g5 (h1.pb2 hd), bs, h5, p_w5 PB_plf, bs, PB_PB, p_g6 (h1.pb2 hd), bs, p_w6 PB_plf, bs, PB_PB]
      obtain ⟨so', qo', tl', e1, e2⟩ := c_cp67 (po := po) (tm := tm) (qo := qo) (tl := tl) (pi := va_up (va_up pi 5 (nI c)) 6 (pi1 6)) h1 hd s8 inj s81 (by rw [up_n (by decide), up_s]) hc h8 hn h9 hy pz_F 0 so (by omega) (by unfold pz_F; omega) (fun k hk => by omega)
      exact ⟨tm, so', qo', tl', e1, hj, e2⟩
    · rw [if_neg (by rw [show (5 : Int32) = nI 5 from rfl, nI_leI (by decide) (by omega)]; omega), p_r3 PB_plf, bs, p_r3 (h1.pb2 hd), bs, p_tm (h1.pb2 hd) (k := i) rfl (by omega), bs, p_wt PB_plf rfl (by omega), bs, PB_PB, nI_1]
      refine ih (i + 1) _ (by omega) (by omega) (fun k hk => ?_)
      by_cases e : k = i
      · subst e; rw [upd_s]
      · rw [upd_n e]; exact hj k (by omega)
theorem c_cpPlan (h : PlF f po pi tm sr so qo tl) (h1 : PlF f p1 pi1 tm1 sr1 so1 qo1 tl1) (hd : po + 19 ≤ p1 ∨ p1 + 19 ≤ po) (s8 : ∀ i, i < 8 → sr i < 8) (inj : ∀ i j, i < 8 → j < 8 → sr i = sr j → i = j) (hr : PlnR w pi1 tm1 sr1 so1 qo1 tl1) (hc : Cnt w) : ∃ pi' tm' so' qo' tl', fnX3_copyFrom f po p1 = some (PB po pi' tm' sr so' qo' tl' f) ∧ PlnR w pi' tm' sr so' qo' tl' := by
  obtain ⟨⟨⟨a0, a1, a2, a3, a4, a5, a6⟩, tmr, s81, sp⟩, hQ, hy, inj1⟩ := hr
  unfold fnX3_copyFrom
  rw [p_is h, bs, p_g0 h1, bs, p_w0 h, bs, p_g1 (h1.pb2 hd), bs, p_w1 PB_plf, bs, PB_PB, p_g2 (h1.pb2 hd), bs, p_w2 PB_plf, bs, PB_PB]
  obtain ⟨tm', so', qo', tl', e1, e2, e3, e4, e5⟩ := c_cp26 (po := po) (so := so) (qo := qo) (tl := tl) (f := f) (pi := va_up (va_up (va_up pi 0 (pi1 0)) 1 (pi1 1)) 2 (pi1 2)) (c := cS w) (n := cP w) (y := cY w) h1 hd s8 inj s81 (by rw [a3]; exact hc.1.1) hc.1.2 (by rw [a5]; exact hc.2.1.1) hc.2.1.2 (by rw [a6]; exact hc.2.2.1) hc.2.2.2 pz_F 0 tm (by omega) (by unfold pz_F; omega) (fun k hk => by omega)
  refine ⟨_, tm', so', qo', tl', e1, ⟨⟨a0, a1, a2, ?_, a4, ?_, ?_⟩, ?_, s8, ?_⟩, ?_, ⟨?_, ?_, ?_⟩, inj⟩
  · exact hc.1.1.symm
  · exact hc.2.1.1.symm
  · exact hc.2.2.1.symm
  · intro i hi; rw [e2 i hi]; exact tmr i hi
  · intro k hk
    rw [e3 k hk 0 (by decide), e3 k hk 1 (by decide), e3 k hk 2 (by decide)]; exact sp k hk
  · intro k hk
    have q := hQ k hk
    unfold QR at q ⊢
    rw [e4 k hk 0 (by decide), e4 k hk 1 (by decide), e4 k hk 2 (by decide), e4 k hk 3 (by decide), e4 k hk 4 (by decide), e4 k hk 5 (by decide), e4 k hk 6 (by decide), e4 k hk 7 (by decide), e4 k hk 8 (by decide)]
    exact q
  · intro i hi
    rw [(e5 i (by omega)).1, (e5 (i + 1) hi).1]; exact hy.1 i hi
  · intro i hi
    rw [(e5 i hi).1, (e5 i hi).2]; exact hy.2.1 i hi
  · intro j hj
    obtain ⟨i, i1, i2, i3⟩ := hy.2.2 j hj
    exact ⟨i, i1, by rw [(e5 i i1).1]; exact i2, by rw [(e5 i i1).2]; exact i3⟩
end CT
