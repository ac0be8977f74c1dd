/-! ===== what is told stays in bounds behind each statement ===== -/
theorem svN_0 {w : Nat → Int32} (hv : Vld w) {a b : Int32} (ha : 0 ≤ a.toInt) (hb : 0 ≤ b.toInt) : ∀ k, k ≤ cS w → (svN w a b k).toInt ≤ 0 → ∀ i, i < k → svZ (w (11 + 3 * i)).toInt (w (12 + 3 * i)).toInt a.toInt b.toInt = 0
  | 0, _, _, i, hi => by omega
  | k + 1, hk, h0, i, hi => by
    obtain ⟨h1, h2, h3⟩ := svN_toInt hv ha hb k (by omega)
    obtain ⟨s1, s2, s3, s4, s5⟩ := hv.2.2.2.2.2.2.2.2.2.1 k (by omega)
    have hb0 := hv.2.1.1
    have ht := svT_toInt (x := w (11 + 3 * k)) (y := w (12 + 3 * k)) (by omega) (by omega) ha hb
    have hn := svZ_nn (w (11 + 3 * k)).toInt (w (12 + 3 * k)).toInt a.toInt b.toInt
    have hl := svZ_le (x := (w (11 + 3 * k)).toInt) (y := (w (12 + 3 * k)).toInt) (a := a.toInt) (b := b.toInt) (by omega)
    have h0' : (svN w a b k + svT (w (11 + 3 * k)) (w (12 + 3 * k)) a b).toInt ≤ 0 := h0
    rw [i32_add (by omega) (by omega)] at h0'
    by_cases e : i = k
    · subst e; omega
    · exact svN_0 hv ha hb k (by omega) (by omega) i (by omega)
theorem srvL_spec (f : Int32) : ∀ (k : Nat) (w : Nat → Int32), (srvL f k w).2 ≤ k ∧ (∀ i, (srvL f k w).2 ≤ i → i < k → ¬ w (11 + 3 * i) ≤ f) ∧ ((srvL f k w).2 = 0 ∨ w (11 + 3 * ((srvL f k w).2 - 1)) ≤ f) ∧ (∀ j, j < 14 + 3 * (srvL f k w).2 ∨ 14 + 3 * k ≤ j → (srvL f k w).1 j = w j) ∧ ∀ i, (srvL f k w).2 ≤ i → i < k → ∀ o, o < 3 → (srvL f k w).1 (14 + 3 * i + o) = w (11 + 3 * i + o)
  | 0, w => ⟨Nat.le_refl _, fun i _ h => by omega, Or.inl rfl, fun _ _ => rfl, fun i _ h => by omega⟩
  | k + 1, w => by
    unfold srvL
    by_cases c : w (11 + 3 * k) ≤ f
    · rw [if_pos c]
      exact ⟨Nat.le_refl _, fun i h1 h2 => by have h1 : k + 1 ≤ i := h1; omega, Or.inr c, fun _ _ => rfl, fun i h1 h2 => by have h1 : k + 1 ≤ i := h1; omega⟩
    · rw [if_neg c]
      obtain ⟨a1, a2, a3, a4, a5⟩ := srvL_spec f k (mv3 w k)
      have hm : ∀ j, j < 14 + 3 * k ∨ 17 + 3 * k ≤ j → mv3 w k j = w j := by
        intro j hj; unfold mv3; rw [upd_n (by omega), upd_n (by omega), upd_n (by omega)]
      refine ⟨by omega, ?_, ?_, ?_, ?_⟩
      · intro i h1 h2
        by_cases e : i = k
        · subst e; exact c
        · have := a2 i h1 (by omega); rw [hm _ (by omega)] at this; exact this
      · rcases a3 with z | z
        · exact Or.inl z
        · right; rw [hm _ (by omega)] at z; exact z
      · intro j hj
        rw [a4 j (by omega), hm j (by omega)]
      · intro i h1 h2 o ho
        by_cases e : i = k
        · subst e
          rw [a4 _ (by omega)]
          unfold mv3
          rcases (show o = 0 ∨ o = 1 ∨ o = 2 by omega) with z | z | z <;> subst z
          · rw [upd_n (by omega), upd_n (by omega), show 14 + 3 * i + 0 = 14 + 3 * i by omega, upd_s, show 11 + 3 * i + 0 = 11 + 3 * i by omega]
          · rw [upd_n (by omega), show 14 + 3 * i + 1 = 15 + 3 * i by omega, upd_s, show 11 + 3 * i + 1 = 12 + 3 * i by omega]
          · rw [show 14 + 3 * i + 2 = 16 + 3 * i by omega, upd_s, show 11 + 3 * i + 2 = 13 + 3 * i by omega]
        · rw [a5 i h1 (by omega) o ho, hm _ (by omega)]
/-- where a new span goes -/
def srvP (w : Nat → Int32) (f : Int32) : Nat := (srvL f (cS w) w).2
theorem srvW_at {w : Nat → Int32} {f t p : Int32} (h8 : cS w < 8) : srvP w f ≤ cS w ∧ (∀ i, srvP w f ≤ i → i < cS w → ¬ w (11 + 3 * i) ≤ f) ∧ (srvP w f = 0 ∨ w (11 + 3 * (srvP w f - 1)) ≤ f) ∧ (∀ j, j < 11 → j ≠ 3 → srvW w f t p j = w j) ∧ (∀ j, 35 ≤ j → srvW w f t p j = w j) ∧ srvW w f t p 3 = w 3 + 1 ∧ (∀ i, i < srvP w f → ∀ o, o < 3 → srvW w f t p (11 + 3 * i + o) = w (11 + 3 * i + o)) ∧ (srvW w f t p (11 + 3 * srvP w f) = f ∧ srvW w f t p (12 + 3 * srvP w f) = t ∧ srvW w f t p (13 + 3 * srvP w f) = p) ∧ ∀ i, srvP w f ≤ i → i < cS w → ∀ o, o < 3 → srvW w f t p (11 + 3 * (i + 1) + o) = w (11 + 3 * i + o) := by
  obtain ⟨a1, a2, a3, a4, a5⟩ := srvL_spec f (cS w) w
  have hP : (srvL f (cS w) w).2 = srvP w f := rfl
  unfold srvW
  rw [hP] at a1 a2 a3 a4 a5 ⊢
  refine ⟨a1, a2, a3, ?_, ?_, ?_, ?_, ⟨?_, ?_, ?_⟩, ?_⟩
  · intro j hj h3
    rw [upd_n h3]; unfold put3
    rw [upd_n (by omega), upd_n (by omega), upd_n (by omega), a4 j (by omega)]
  · intro j hj
    rw [upd_n (by omega)]; unfold put3
    rw [upd_n (by omega), upd_n (by omega), upd_n (by omega), a4 j (by omega)]
  · rw [upd_s]; unfold put3
    rw [upd_n (by omega), upd_n (by omega), upd_n (by omega), a4 3 (by omega)]
  · intro i hi o ho
    rw [upd_n (by omega)]; unfold put3
    rw [upd_n (by omega), upd_n (by omega), upd_n (by omega), a4 _ (by omega)]
  · rw [upd_n (by omega)]; unfold put3
    rw [upd_n (by omega), upd_n (by omega), upd_s]
  · rw [upd_n (by omega)]; unfold put3
    rw [upd_n (by omega), upd_s]
  · rw [upd_n (by omega)]; unfold put3
    rw [upd_s]
  · intro i h1 h2 o ho
    rw [upd_n (by omega)]; unfold put3
    rw [upd_n (by omega), upd_n (by omega), upd_n (by omega), show 11 + 3 * (i + 1) + o = 14 + 3 * i + o by omega, a5 i h1 h2 o ho]
theorem cnt_up {x : Int32} {c : Nat} (h : x = nI c) (hc : c < 100) : x + 1 = nI (c + 1) ∧ (x + 1).toNatClampNeg = c + 1 := by
  have : x + 1 = nI (c + 1) := by rw [h, nI_1]
  exact ⟨this, nI_t this (by omega)⟩
theorem Vld_srv {w : Nat → Int32} (hv : Vld w) {f t p : Int32} (h8 : cS w < 8) (hf : 0 ≤ f.toInt ∧ f.toInt ≤ 1799) (ht : 0 ≤ t.toInt ∧ t.toInt ≤ 1799) (hp : 0 ≤ p.toInt ∧ p.toInt ≤ 1000000) (hft : ¬ t ≤ f) (hb : ¬ f < w 0) (hs : ¬ 0 < svc w f t) (hr : w 1 = -1 ∨ t ≤ w 1) : Vld (srvW w f t p) := by
  obtain ⟨a1, a2, a3, a4, a5, a6, a7, ⟨a8, a9, a10⟩, a11⟩ := srvW_at (w := w) (f := f) (t := t) (p := p) h8
  have hz : ∀ i, i < cS w → svZ (w (11 + 3 * i)).toInt (w (12 + 3 * i)).toInt f.toInt t.toInt = 0 := by
    refine svN_0 hv hf.1 ht.1 (cS w) (Nat.le_refl _) ?_
    rw [i32_lt, z32] at hs
    unfold svc at hs; omega
  rw [i32_le] at hft; rw [i32_lt] at hb
  have h4 := hv.1.2.1.2
  have hY := hv.1.2.2.2
  have hcu := cnt_up hv.1.1.1 (by omega)
  generalize hw' : srvW w f t p = w' at *
  have eS : cS w' = cS w + 1 := by unfold cS; rw [a6]; exact hcu.2
  have eP : cP w' = cP w := by unfold cP; rw [a4 4 (by omega) (by omega)]
  have eY : cY w' = cY w := by unfold cY; rw [a4 5 (by omega) (by omega)]
  have disj : ∀ i, i < cS w → (w (12 + 3 * i)).toInt ≤ f.toInt ∨ t.toInt ≤ (w (11 + 3 * i)).toInt := by
    intro i hi
    have h := hz i hi
    have hsp := (hv.2.2.2.2.2.2.2.2.2.1 i hi).2.1
    unfold svZ at h
    by_cases c1 : t.toInt ≤ (w (12 + 3 * i)).toInt <;> by_cases c2 : (w (11 + 3 * i)).toInt ≤ f.toInt <;> simp only [c1, c2, ↓reduceIte] at h <;> (split at h <;> omega)
  obtain ⟨hc, h0, h1, h2, t6, t7, t8, t9, t10, sp, so, ps, pl, y1, y2, y3⟩ := hv
  have e0 : w' 0 = w 0 := a4 0 (by omega) (by omega)
  have e1 : w' 1 = w 1 := a4 1 (by omega) (by omega)
  have e2 : w' 2 = w 2 := a4 2 (by omega) (by omega)
  -- each new span
  have lo : ∀ i, i < srvP w f → w' (11 + 3 * i) = w (11 + 3 * i) ∧ w' (12 + 3 * i) = w (12 + 3 * i) ∧ w' (13 + 3 * i) = w (13 + 3 * i) := by
    intro i hi
    have q0 := a7 i hi 0 (by omega); have q1 := a7 i hi 1 (by omega); have q2 := a7 i hi 2 (by omega)
    rw [show 11 + 3 * i + 0 = 11 + 3 * i by omega] at q0
    rw [show 11 + 3 * i + 1 = 12 + 3 * i by omega] at q1
    rw [show 11 + 3 * i + 2 = 13 + 3 * i by omega] at q2
    exact ⟨q0, q1, q2⟩
  have hi : ∀ i, srvP w f ≤ i → i < cS w → w' (11 + 3 * (i + 1)) = w (11 + 3 * i) ∧ w' (12 + 3 * (i + 1)) = w (12 + 3 * i) ∧ w' (13 + 3 * (i + 1)) = w (13 + 3 * i) := by
    intro i hi1 hi2
    have q0 := a11 i hi1 hi2 0 (by omega); have q1 := a11 i hi1 hi2 1 (by omega); have q2 := a11 i hi1 hi2 2 (by omega)
    rw [show 11 + 3 * (i + 1) + 0 = 11 + 3 * (i + 1) by omega, show 11 + 3 * i + 0 = 11 + 3 * i by omega] at q0
    rw [show 11 + 3 * (i + 1) + 1 = 12 + 3 * (i + 1) by omega, show 11 + 3 * i + 1 = 12 + 3 * i by omega] at q1
    rw [show 11 + 3 * (i + 1) + 2 = 13 + 3 * (i + 1) by omega, show 11 + 3 * i + 2 = 13 + 3 * i by omega] at q2
    exact ⟨q0, q1, q2⟩
  refine ⟨?_, by rw [e0]; exact h0, ?_, by rw [e0, e2]; exact h2, by rw [a4 6 (by omega) (by omega)]; exact t6, by rw [a4 7 (by omega) (by omega)]; exact t7, by rw [a4 8 (by omega) (by omega)]; exact t8, by rw [a4 9 (by omega) (by omega)]; exact t9, by rw [a4 10 (by omega) (by omega)]; exact t10, ?_, ?_, ?_, ?_, ?_, ?_, ?_⟩
  · unfold Cnt
    rw [eS, eP, eY, a6, a4 4 (by omega) (by omega), a4 5 (by omega) (by omega)]
    exact ⟨⟨hcu.1, by omega⟩, hc.2⟩
  · rw [e0, e1, eS]
    rcases h1 with h1 | ⟨b1, b2, b3⟩
    · exact Or.inl h1
    · by_cases e : w 1 = -1
      · exact Or.inl e
      · refine Or.inr ⟨b1, b2, fun k hk => ?_⟩
        rcases Nat.lt_trichotomy k (srvP w f) with q | q | q
        · rw [(lo k q).2.1]; exact b3 k (by omega)
        · rw [q, a9]
          have := hr.resolve_left e
          rw [i32_le] at this; exact this
        · obtain ⟨k, rfl⟩ : ∃ m, k = m + 1 := ⟨k - 1, by omega⟩
          rw [(hi k (by omega) (by omega)).2.1]; exact b3 k (by omega)
  · intro k hk
    rw [eS] at hk
    rw [e0]
    rcases Nat.lt_trichotomy k (srvP w f) with q | q | q
    · rw [(lo k q).1, (lo k q).2.1, (lo k q).2.2]; exact sp k (by omega)
    · rw [q, a8, a9, a10]; exact ⟨by omega, by omega, ht.2, hp.1, hp.2⟩
    · obtain ⟨k, rfl⟩ : ∃ m, k = m + 1 := ⟨k - 1, by omega⟩
      obtain ⟨q0, q1, q2⟩ := hi k (by omega) (by omega)
      rw [q0, q1, q2]; exact sp k (by omega)
  · intro k hk
    rw [eS] at hk
    by_cases q : k + 1 < srvP w f
    · rw [(lo k (by omega)).2.1, (lo (k + 1) q).1]; exact so k (by omega)
    by_cases q2 : k + 1 = srvP w f
    · rw [(lo k (by omega)).2.1, q2, a8]
      rcases a3 with z | z
      · omega
      · rw [← q2, show k + 1 - 1 = k by omega, i32_le] at z
        rcases disj k (by omega) with d | d
        · exact d
        · omega
    by_cases q3 : k = srvP w f
    · subst q3
      rw [a9, (hi (srvP w f) (Nat.le_refl _) (by omega)).1]
      have z := a2 (srvP w f) (Nat.le_refl _) (by omega)
      rw [i32_le] at z
      have hsp := (sp (srvP w f) (by omega)).2.1
      rcases disj (srvP w f) (by omega) with d | d
      · omega
      · exact d
    · obtain ⟨k, rfl⟩ : ∃ m, k = m + 1 := ⟨k - 1, by omega⟩
      rw [(hi k (by omega) (by omega)).2.1, (hi (k + 1) (by omega) (by omega)).1]
      exact so k (by omega)
  · intro k hk
    rw [eP] at hk
    rw [a5 (35 + 8 * k) (by omega), a5 (36 + 8 * k) (by omega), a5 (37 + 8 * k) (by omega), a5 (38 + 8 * k) (by omega), a5 (39 + 8 * k) (by omega), a5 (40 + 8 * k) (by omega), a5 (41 + 8 * k) (by omega), a5 (42 + 8 * k) (by omega)]
    exact ps k hk
  · intro k hk
    rw [eP] at hk
    rw [a5 (37 + 8 * k) (by omega)]
    exact pl k hk
  · intro i hi
    rw [eY] at hi
    rw [a5 (67 + 2 * i) (by omega), a5 (68 + 2 * i) (by omega)]
    exact y1 i hi
  · intro i j hi hj
    rw [eY] at hi hj
    rw [a5 (67 + 2 * i) (by omega), a5 (67 + 2 * j) (by omega)]
    exact y2 i j hi hj
  · intro i j hi hj
    rw [eY] at hi hj
    rw [a5 (67 + 2 * i) (by omega), a5 (67 + 2 * j) (by omega), a5 (68 + 2 * i) (by omega), a5 (68 + 2 * j) (by omega)]
    exact y3 i j hi hj
theorem wedX_at {w : Nat → Int32} {b m : Int32} (h4 : cP w < 4) : (∀ j, j ≠ 4 → (j < 35 + 8 * cP w ∨ 43 + 8 * cP w ≤ j) → wedX w b m j = w j) ∧ wedX w b m 4 = w 4 + 1 ∧ wedX w b m (35 + 8 * cP w) = b ∧ wedX w b m (36 + 8 * cP w) = m ∧ wedX w b m (37 + 8 * cP w) = -1 ∧ wedX w b m (38 + 8 * cP w) = 0 ∧ wedX w b m (39 + 8 * cP w) = 0 ∧ wedX w b m (40 + 8 * cP w) = 0 ∧ wedX w b m (41 + 8 * cP w) = 0 ∧ wedX w b m (42 + 8 * cP w) = -1 := by
  unfold wedX wedW
  refine ⟨fun j h hj => ?_, ?_, ?_, ?_, ?_, ?_, ?_, ?_, ?_, ?_⟩
  · rw [upd_n h, upd_n (by omega), upd_n (by omega), upd_n (by omega), upd_n (by omega), upd_n (by omega), upd_n (by omega), upd_n (by omega), upd_n (by omega)]
  · rw [upd_s, upd_n (by omega), upd_n (by omega), upd_n (by omega), upd_n (by omega), upd_n (by omega), upd_n (by omega), upd_n (by omega), upd_n (by omega)]
  · rw [upd_n (by omega), upd_n (by omega), upd_n (by omega), upd_n (by omega), upd_n (by omega), upd_n (by omega), upd_n (by omega), upd_n (by omega), upd_s]
  · rw [upd_n (by omega), upd_n (by omega), upd_n (by omega), upd_n (by omega), upd_n (by omega), upd_n (by omega), upd_n (by omega), upd_s]
  · rw [upd_n (by omega), upd_n (by omega), upd_n (by omega), upd_n (by omega), upd_n (by omega), upd_n (by omega), upd_s]
  · rw [upd_n (by omega), upd_n (by omega), upd_n (by omega), upd_n (by omega), upd_n (by omega), upd_s]
  · rw [upd_n (by omega), upd_n (by omega), upd_n (by omega), upd_n (by omega), upd_s]
  · rw [upd_n (by omega), upd_n (by omega), upd_n (by omega), upd_s]
  · rw [upd_n (by omega), upd_n (by omega), upd_s]
  · rw [upd_n (by omega), upd_s]
theorem Vld_wed {w : Nat → Int32} (hv : Vld w) {b m : Int32} (h4 : cP w < 4) (hb : 0 ≤ b.toInt ∧ b.toInt ≤ 1799) (hm : 0 ≤ m.toInt ∧ m.toInt ≤ 1799) (hl : cP w = 0 ∨ ¬ w (37 + 8 * (cP w - 1)) = -1) : Vld (wedX w b m) := by
  obtain ⟨a1, a2, b0, b1, b2, b3, b4, b5, b6, b7⟩ := wedX_at (w := w) (b := b) (m := m) h4
  have hcu := cnt_up hv.1.2.1.1 (by omega)
  generalize wedX w b m = w' at *
  have hY := hv.1.2.2.2
  have h8 := hv.1.1.2
  have eS : cS w' = cS w := by unfold cS; rw [a1 3 (by omega) (by omega)]
  have eP : cP w' = cP w + 1 := by unfold cP; rw [a2]; exact hcu.2
  have eY : cY w' = cY w := by unfold cY; rw [a1 5 (by omega) (by omega)]
  obtain ⟨hc, h0, h1, h2, t6, t7, t8, t9, t10, sp, so, ps, pl, y1, y2, y3⟩ := hv
  have e0 : w' 0 = w 0 := a1 0 (by omega) (by omega)
  have e1 : w' 1 = w 1 := a1 1 (by omega) (by omega)
  have e2 : w' 2 = w 2 := a1 2 (by omega) (by omega)
  refine ⟨?_, by rw [e0]; exact h0, ?_, by rw [e0, e2]; exact h2, by rw [a1 6 (by omega) (by omega)]; exact t6, by rw [a1 7 (by omega) (by omega)]; exact t7, by rw [a1 8 (by omega) (by omega)]; exact t8, by rw [a1 9 (by omega) (by omega)]; exact t9, by rw [a1 10 (by omega) (by omega)]; exact t10, ?_, ?_, ?_, ?_, ?_, ?_, ?_⟩
  · unfold Cnt
    rw [eS, eP, eY, a2, a1 3 (by omega) (by omega), a1 5 (by omega) (by omega)]
    exact ⟨hc.1, ⟨hcu.1, by omega⟩, hc.2.2⟩
  · rw [e0, e1, eS]
    rcases h1 with h1 | ⟨a, b, c⟩
    · exact Or.inl h1
    · exact Or.inr ⟨a, b, fun k hk => by rw [a1 (12 + 3 * k) (by omega) (by omega)]; exact c k hk⟩
  · intro k hk
    rw [eS] at hk
    rw [e0, a1 (11 + 3 * k) (by omega) (by omega), a1 (12 + 3 * k) (by omega) (by omega), a1 (13 + 3 * k) (by omega) (by omega)]
    exact sp k hk
  · intro k hk
    rw [eS] at hk
    rw [a1 (12 + 3 * k) (by omega) (by omega), a1 (11 + 3 * (k + 1)) (by omega) (by omega)]
    exact so k hk
  · intro k hk
    rw [eP] at hk
    by_cases e : k = cP w
    · subst e
      rw [b0, b1, b2, b3, b4, b5, b6, b7]
      exact ⟨hb, hm, Or.inl ⟨rfl, rfl, rfl, rfl⟩, by decide, Or.inl rfl, by decide, by decide, Or.inl rfl⟩
    · rw [a1 (35 + 8 * k) (by omega) (by omega), a1 (36 + 8 * k) (by omega) (by omega), a1 (37 + 8 * k) (by omega) (by omega), a1 (38 + 8 * k) (by omega) (by omega), a1 (39 + 8 * k) (by omega) (by omega), a1 (40 + 8 * k) (by omega) (by omega), a1 (41 + 8 * k) (by omega) (by omega), a1 (42 + 8 * k) (by omega) (by omega)]
      exact ps k (by omega)
  · intro k hk
    rw [eP] at hk
    rw [a1 (37 + 8 * k) (by omega) (by omega)]
    by_cases e : k + 1 < cP w
    · exact pl k e
    · have : cP w - 1 = k := by omega
      rw [this] at hl
      exact hl.resolve_left (by omega)
  · intro i hi
    rw [eY] at hi
    rw [a1 (67 + 2 * i) (by omega) (by omega), a1 (68 + 2 * i) (by omega) (by omega)]
    exact y1 i hi
  · intro i j hi hj
    rw [eY] at hi hj
    rw [a1 (67 + 2 * i) (by omega) (by omega), a1 (67 + 2 * j) (by omega) (by omega)]
    exact y2 i j hi hj
  · intro i j hi hj
    rw [eY] at hi hj
    rw [a1 (67 + 2 * i) (by omega) (by omega), a1 (67 + 2 * j) (by omega) (by omega), a1 (68 + 2 * i) (by omega) (by omega), a1 (68 + 2 * j) (by omega) (by omega)]
    exact y3 i j hi hj
theorem Vld_prt {w : Nat → Int32} (hv : Vld w) {k : Nat} {m p h s : Int32} (hk : k < cP w) (hm : (w (36 + 8 * k)).toInt < m.toInt ∧ m.toInt ≤ 1799) (hp : 0 ≤ p.toInt ∧ p.toInt ≤ 1000) (hh : h = 0 ∨ h = 1) (hs : 0 ≤ s.toInt ∧ s.toInt ≤ 1000) : Vld (prtW w k m p h s) := by
  have h4 := hv.1.2.1.2
  have hk4 := hv.p4 hk
  have g : ∀ j, j < 37 + 8 * k ∨ 41 + 8 * k ≤ j → prtW w k m p h s j = w j := by
    intro j hj; unfold prtW; rw [upd_n (by omega), upd_n (by omega), upd_n (by omega), upd_n (by omega)]
  have g2 : prtW w k m p h s (37 + 8 * k) = m := by unfold prtW; rw [upd_n (by omega), upd_n (by omega), upd_n (by omega), upd_s]
  have g3 : prtW w k m p h s (38 + 8 * k) = p := by unfold prtW; rw [upd_n (by omega), upd_n (by omega), upd_s]
  have g4 : prtW w k m p h s (39 + 8 * k) = h := by unfold prtW; rw [upd_n (by omega), upd_s]
  have g5 : prtW w k m p h s (40 + 8 * k) = s := by unfold prtW; rw [upd_s]
  generalize prtW w k m p h s = w' at *
  refine Vld_sp hv (fun j hj => g j (by omega)) (fun q hq => ?_) (fun q hq => ?_)
  · have hq4 := hv.p4 hq
    obtain ⟨a1, a2, a3, a4, a5, a6, a7, a8⟩ := hv.sp hq
    unfold SpOK
    by_cases e : q = k
    · subst e
      rw [g (35 + 8 * q) (by omega), g (36 + 8 * q) (by omega), g2, g3, g4, g5, g (41 + 8 * q) (by omega), g (42 + 8 * q) (by omega)]
      exact ⟨a1, a2, Or.inr hm, hp, hh, hs, a7, a8⟩
    · rw [g (35 + 8 * q) (by omega), g (36 + 8 * q) (by omega), g (37 + 8 * q) (by omega), g (38 + 8 * q) (by omega), g (39 + 8 * q) (by omega), g (40 + 8 * q) (by omega), g (41 + 8 * q) (by omega), g (42 + 8 * q) (by omega)]
      exact ⟨a1, a2, a3, a4, a5, a6, a7, a8⟩
  · have hw := (hv.sp (show q < cP w by omega)).2.1
    by_cases e : q = k
    · subst e; rw [g2]
      exact ne_m1 (by omega)
    · have := hv.p4 (show q < cP w by omega)
      rw [g (37 + 8 * q) (by omega)]; exact hv.2.2.2.2.2.2.2.2.2.2.2.2.1 q hq
