/-! ===== worths: the reference ===== -/
def wX (w : Nat → Int32) (k : Nat) (ow b a : Int64) (m : Nat) : Int64 := if w (39 + 8 * k) = 1 then ow * b / 1000000000 else (shr w k m * (a * b / 1000000000) + shr w k m * (w (40 + 8 * k)).toInt64 / 1000 * (b - a * b / 1000000000)) / 1000000000
def fwS (w : Nat → Int32) (k t : Nat) : Nat := if bT w k ≤ t then t else bT w k
def wsp (w : Nat → Int32) (k t : Nat) : Int64 := smA (fun m => dsc w (m - t) * wX w k (own w k) (od w (w (35 + 8 * k)) (nI t) m) (od w (w 0) (nI t) m) m / 1000000000) (fwS w k t) (1800 - fwS w k t)
def walS (w : Nat → Int32) (t : Nat) : Nat := if rT w ≤ t then t else rT w
def wal (w : Nat → Int32) (t : Nat) : Int64 := smA (fun m => dsc w (m - t) * (whl w m * od w (w 0) (nI t) m / 1000000000) / 1000000000) (walS w t) (1800 - walS w t)
section MFS
variable {mo : Nat} {iv : Nat → Int32} {ia : Nat → Nat → Int32} {la : Nat → Nat → Int64} {g : pz_H}
theorem m_shareD (hv : Vld (ia 0)) (hld : LD (ia 0) iv la) {k m : Nat} {p q : Int32} (hp : p = nI k) (hk : k < 4) (hq : q = nI m) (hm : m < 1800) : fnX10_shareIn (MH mo iv ia la g) mo p q = some (shr (ia 0) k m, MH mo iv ia la g) := by
  have h1 : fnX10_laysWholes (MH mo iv ia la g) mo = some (MH mo iv ia la g) := by
    unfold fnX10_laysWholes
    simp only [mh_is, mh_g0, mh_g4, mh_g6, mh_g12, mh_g14, mh_g15, mh_g16, mh_g17, mh_g18, mh_g19, mh_g20, mh_r1, mh_r2, mh_r3, mh_r5, mh_r7, mh_r8, mh_r9, mh_r10, mh_r11, mh_r13, mh_r21, mh_s0, mh_s4, mh_s6, mh_s12, mh_s14, mh_s15, mh_s16, mh_s17, mh_s18, mh_s19, mh_s20, mh_w0, mh_w1, mh_w2, mh_w3, mh_w4, mh_w5, mh_w6, mh_w7, mh_w8, mh_w9, mh_w10, bs]
    rw [if_neg (by rw [hld.1]; decide)]
  unfold fnX10_shareIn fX10_shareIn_45 shr
  simp only [mh_is, mh_g0, mh_g4, mh_g6, mh_g12, mh_g14, mh_g15, mh_g16, mh_g17, mh_g18, mh_g19, mh_g20, mh_r1, mh_r2, mh_r3, mh_r5, mh_r7, mh_r8, mh_r9, mh_r10, mh_r11, mh_r13, mh_r21, mh_s0, mh_s4, mh_s6, mh_s12, mh_s14, mh_s15, mh_s16, mh_s17, mh_s18, mh_s19, mh_s20, mh_w0, mh_w1, mh_w2, mh_w3, mh_w4, mh_w5, mh_w6, mh_w7, mh_w8, mh_w9, mh_w10, bs, h1, m_served hv.c, m_its3 hp hk, m_wedIn hv.c hp hk, mh_l0 hq hm, (hld.2 m hm).1]
  show (if nS (ia 0) = 0 then _ else _) = _
  by_cases c : nS (ia 0) = 0
  · simp only [c, ↓reduceIte]
  · simp only [c, ↓reduceIte]
    show (if (1000 : Int64) * (nS (ia 0)).toInt64 = 0 then _ else _) = _
    rw [if_neg (nS_64 hv c)]; rfl
theorem m_worthIn_loop (hv : Vld (ia 0)) (hld : LD (ia 0) iv la) {k t s : Nat} {p : Int32} {ow : Int64} (hp : p = nI k) (hk : k < 4) (hts : t ≤ s) (hs : s ≤ 1800) : ∀ (N i : Nat), s + i ≤ 1800 → 1800 - (s + i) < N → fX10_worthIn_27 N (MH mo iv ia la g) mo p (nI t) ow (smA (fun m => dsc (ia 0) (m - t) * wX (ia 0) k ow (la 3 m) (la 2 m) m / 1000000000) s i) (nI (s + i)) = some (smA (fun m => dsc (ia 0) (m - t) * wX (ia 0) k ow (la 3 m) (la 2 m) m / 1000000000) s (1800 - s), MH mo iv ia la g) := by
  intro N
  induction N with
  | zero => intro i _ h; omega
  | succ N ih =>
    intro i hi hN
    show fX10_worthIn_27b _ _ _ _ _ _ _ _ = _
    unfold fX10_worthIn_27b
    by_cases h : s + i = 1800
    · rw [h, if_pos (by decide), show 1800 - s = i by omega]
    · rw [if_neg (nI_1800 (by omega))]
      have e : nI (s + i) - nI t = nI (s + i - t) := pk_sub (by omega)
      have key := ih (i + 1) (by omega) (by omega)
      have hs2 : smA (fun m => dsc (ia 0) (m - t) * wX (ia 0) k ow (la 3 m) (la 2 m) m / 1000000000) s (i + 1) = smA (fun m => dsc (ia 0) (m - t) * wX (ia 0) k ow (la 3 m) (la 2 m) m / 1000000000) s i + dsc (ia 0) (s + i - t) * wX (ia 0) k ow (la 3 (s + i)) (la 2 (s + i)) (s + i) / 1000000000 := rfl
      rw [hs2] at key
      rw [mh_r9, bs, mh_l3 (i := nI (s + i)) rfl (show s + i < 1800 by omega), bs, m_its4 hp hk, bs]
      unfold fX10_worthIn_124
      by_cases c : ia 0 (39 + 8 * k) = 1
      · rw [if_pos c, mh_r7, bs, mh_l1 e (show s + i - t < 1800 by omega), bs, (hld.2 (s + i - t) (by omega)).2, nI_1, ← key]
        unfold wX; rw [if_pos c]; rfl
      · rw [if_neg c, mh_r8, bs, mh_l2 (i := nI (s + i)) rfl (show s + i < 1800 by omega), bs, m_shareD hv hld hp hk (q := nI (s + i)) rfl (by omega), bs]
        dsimp only
        rw [m_its5 hp hk, bs, mh_r7, bs, mh_l1 e (show s + i - t < 1800 by omega), bs, (hld.2 (s + i - t) (by omega)).2, nI_1, ← key]
        unfold wX; rw [if_neg c]; rfl
theorem m_worthIn (hv : Vld (ia 0)) (hld : LD (ia 0) iv la) (h1 : ¬ ia 0 1 = -1) {k t : Nat} {p q : Int32} {ow : Int64} (hp : p = nI k) (hk : k < cP (ia 0)) (hq : q = nI t) (ht : t < 1800) : fnX10_worthIn (MH mo iv ia la g) mo p q ow = some (smA (fun m => dsc (ia 0) (m - t) * wX (ia 0) k ow (la 3 m) (la 2 m) m / 1000000000) (fwS (ia 0) k t) (1800 - fwS (ia 0) k t), MH mo iv ia la g) := by
  obtain ⟨b1, b2, b3⟩ := hv.b h1 hk
  have hk4 := hv.p4 hk
  unfold fnX10_worthIn fX10_worthIn_18 fwS
  simp only [mh_is, mh_g0, mh_g4, mh_g6, mh_g12, mh_g14, mh_g15, mh_g16, mh_g17, mh_g18, mh_g19, mh_g20, mh_r1, mh_r2, mh_r3, mh_r5, mh_r7, mh_r8, mh_r9, mh_r10, mh_r11, mh_r13, mh_r21, mh_s0, mh_s4, mh_s6, mh_s12, mh_s14, mh_s15, mh_s16, mh_s17, mh_s18, mh_s19, mh_s20, mh_w0, mh_w1, mh_w2, mh_w3, mh_w4, mh_w5, mh_w6, mh_w7, mh_w8, mh_w9, mh_w10, bs, m_begin hp hk4]
  have e : beg (ia 0) k ≤ q ↔ bT (ia 0) k ≤ t := by rw [b1, hq, nI_leI (by omega) (by omega)]
  by_cases c : bT (ia 0) k ≤ t
  · rw [if_pos (e.mpr c), if_pos c, hq]
    exact m_worthIn_loop hv hld hp hk4 (Nat.le_refl _) (by omega) pz_F 0 (by omega) (by unfold pz_F; omega)
  · rw [if_neg (fun z => c (e.mp z)), if_neg c, hq]
    have := m_worthIn_loop (mo := mo) (g := g) (t := t) (ow := ow) hv hld hp hk4 (s := bT (ia 0) k) (by omega) (by omega) pz_F 0 (by omega) (by unfold pz_F; omega)
    rw [Nat.add_zero, ← b1] at this
    exact this
theorem CaOK.ld {w iv : Nat → Int32} {la : Nat → Nat → Int64} (h : CaOK iv w la) (h2 : iv 6 = 1) : LD w iv la := by
  rcases h with h | h
  · rw [h] at h2; exact absurd h2 (by decide)
  · exact h
theorem m_worthOfSpouse (hv : Vld (ia 0)) (hca : CaOK iv (ia 0) la) (h1 : ¬ ia 0 1 = -1) {k t : Nat} {p q : Int32} (hp : p = nI k) (hk : k < cP (ia 0)) (hq : q = nI t) (ht : t < 1800) (hb : (ia 0 0).toInt ≤ t) (hb2 : (ia 0 (35 + 8 * k)).toInt ≤ t) : ∃ iv' la', fnX10_worthOfSpouse (MH mo iv ia la g) mo p q = some (wsp (ia 0) k t, MH mo iv' ia la' g) ∧ LO (ia 0) iv la iv' la' := by
  have hk4 := hv.p4 hk
  obtain ⟨⟨s1, s2⟩, -⟩ := hv.2.2.2.2.2.2.2.2.2.2.2.1 k hk
  obtain ⟨iv1, la1, e1, f1, d1⟩ := m_lays (mo := mo) (g := g) hv hca
  obtain ⟨iv2, la2, e2, f2⟩ := m_ownOf (mo := mo) (g := g) hv f1.2.2 hp hk
  obtain ⟨la3, e3, f3, v3⟩ := m_odds2 (mo := mo) (iv := iv2) (la := la2) (g := g) (t := t) hv hq ht (b := ia 0 0) (who := 10) (fun _ => m_bornM) hv.2.1.1 hb
  have c3 := f2.2.2.od (by decide) f3
  obtain ⟨la4, e4, f4, v4⟩ := m_odds3 (mo := mo) (iv := iv2) (la := la3) (g := g) (t := t) hv hq ht (b := ia 0 (35 + 8 * k)) (who := p) (fun _ => m_bornS hp hk4) s1 hb2
  have c4 := c3.od (by decide) f4
  unfold fnX10_worthOfSpouse
  simp only [mh_is, mh_g0, mh_g4, mh_g6, mh_g12, mh_g14, mh_g15, mh_g16, mh_g17, mh_g18, mh_g19, mh_g20, mh_r1, mh_r2, mh_r3, mh_r5, mh_r7, mh_r8, mh_r9, mh_r10, mh_r11, mh_r13, mh_r21, mh_s0, mh_s4, mh_s6, mh_s12, mh_s14, mh_s15, mh_s16, mh_s17, mh_s18, mh_s19, mh_s20, mh_w0, mh_w1, mh_w2, mh_w3, mh_w4, mh_w5, mh_w6, mh_w7, mh_w8, mh_w9, mh_w10, bs, e1, e2, e3, e4]
  have d4 := c4.ld (f2.1.2 d1.1)
  rw [m_worthIn hv d4 h1 hp hk hq ht, bs]
  refine ⟨iv2, la4, ?_, f1.lo.tr (f2.tr ((LO.od (Or.inl rfl) f2.2.2 f3).tr (LO.od (Or.inr rfl) c3 f4)))⟩
  dsimp only
  have e9 : smA (fun m => dsc (ia 0) (m - t) * wX (ia 0) k (own (ia 0) k) (la4 3 m) (la4 2 m) m / 1000000000) (fwS (ia 0) k t) (1800 - fwS (ia 0) k t) = wsp (ia 0) k t := by
    unfold wsp
    refine smA_congr _ (fun m h1 h2 => ?_)
    have h5 : t ≤ m := by unfold fwS at h1; split at h1 <;> omega
    have h3 : m < 1800 := by omega
    rw [v4 m h5 h3, f4 2 (by decide), v3 m h5 h3]
  rw [e9]
theorem m_worthOfAll_loop (hld : LD (ia 0) iv la) {t s : Nat} (hts : t ≤ s) (hs : s ≤ 1800) : ∀ (N i : Nat), s + i ≤ 1800 → 1800 - (s + i) < N → fX10_worthOfAll_39 N (MH mo iv ia la g) mo (nI t) (smA (fun m => dsc (ia 0) (m - t) * (whl (ia 0) m * la 2 m / 1000000000) / 1000000000) s i) (nI (s + i)) = some (smA (fun m => dsc (ia 0) (m - t) * (whl (ia 0) m * la 2 m / 1000000000) / 1000000000) s (1800 - s), MH mo iv ia la g) := by
  intro N
  induction N with
  | zero => intro i _ h; omega
  | succ N ih =>
    intro i hi hN
    show fX10_worthOfAll_39b _ _ _ _ _ _ = _
    unfold fX10_worthOfAll_39b
    by_cases h : s + i = 1800
    · rw [h, if_pos (by decide), show 1800 - s = i by omega]
    · rw [if_neg (nI_1800 (by omega))]
      have e : nI (s + i) - nI t = nI (s + i - t) := pk_sub (by omega)
      simp only [mh_is, mh_g0, mh_g4, mh_g6, mh_g12, mh_g14, mh_g15, mh_g16, mh_g17, mh_g18, mh_g19, mh_g20, mh_r1, mh_r2, mh_r3, mh_r5, mh_r7, mh_r8, mh_r9, mh_r10, mh_r11, mh_r13, mh_r21, mh_s0, mh_s4, mh_s6, mh_s12, mh_s14, mh_s15, mh_s16, mh_s17, mh_s18, mh_s19, mh_s20, mh_w0, mh_w1, mh_w2, mh_w3, mh_w4, mh_w5, mh_w6, mh_w7, mh_w8, mh_w9, mh_w10, bs, mh_l1 e (show s + i - t < 1800 by omega), mh_l2 (i := nI (s + i)) rfl (show s + i < 1800 by omega), mh_l0 (i := nI (s + i)) rfl (show s + i < 1800 by omega), (hld.2 (s + i - t) (by omega)).2, (hld.2 (s + i) (by omega)).1, nI_1]
      exact ih (i + 1) (by omega) (by omega)
theorem m_worthOfAll (hv : Vld (ia 0)) (hca : CaOK iv (ia 0) la) (h1 : ¬ ia 0 1 = -1) {t : Nat} {q : Int32} (hq : q = nI t) (ht : t < 1800) (hb : (ia 0 0).toInt ≤ t) : ∃ iv' la', fnX10_worthOfAll (MH mo iv ia la g) mo q = some (wal (ia 0) t, MH mo iv' ia la' g) ∧ LO (ia 0) iv la iv' la' := by
  obtain ⟨r1, r2, r3, r4⟩ := hv.r h1
  obtain ⟨iv1, la1, e1, f1, d1⟩ := m_lays (mo := mo) (g := g) hv hca
  obtain ⟨la3, e3, f3, v3⟩ := m_odds2 (mo := mo) (iv := iv1) (la := la1) (g := g) (t := t) hv hq ht (b := ia 0 0) (who := 10) (fun _ => m_bornM) hv.2.1.1 hb
  have c3 := f1.2.2.od (by decide) f3
  have d3 := c3.ld d1.1
  have lo := f1.lo.tr (LO.od (Or.inl rfl) f1.2.2 f3)
  have e9 : ∀ s, t ≤ s → smA (fun m => dsc (ia 0) (m - t) * (whl (ia 0) m * la3 2 m / 1000000000) / 1000000000) s (1800 - s) = smA (fun m => dsc (ia 0) (m - t) * (whl (ia 0) m * od (ia 0) (ia 0 0) (nI t) m / 1000000000) / 1000000000) s (1800 - s) := by
    intro s hs
    refine smA_congr _ (fun m h1 h2 => ?_)
    rw [v3 m (by omega) (by omega)]
  refine ⟨iv1, la3, ?_, lo⟩
  unfold fnX10_worthOfAll fX10_worthOfAll_37 wal walS
  simp only [mh_is, mh_g0, mh_g4, mh_g6, mh_g12, mh_g14, mh_g15, mh_g16, mh_g17, mh_g18, mh_g19, mh_g20, mh_r1, mh_r2, mh_r3, mh_r5, mh_r7, mh_r8, mh_r9, mh_r10, mh_r11, mh_r13, mh_r21, mh_s0, mh_s4, mh_s6, mh_s12, mh_s14, mh_s15, mh_s16, mh_s17, mh_s18, mh_s19, mh_s20, mh_w0, mh_w1, mh_w2, mh_w3, mh_w4, mh_w5, mh_w6, mh_w7, mh_w8, mh_w9, mh_w10, bs, e1, e3]
  have e : ia 0 1 ≤ q ↔ rT (ia 0) ≤ t := by rw [r1, hq, nI_leI (by omega) (by omega)]
  by_cases c : rT (ia 0) ≤ t
  · rw [if_pos (e.mpr c), if_pos c, ← e9 t (Nat.le_refl _), hq]
    exact m_worthOfAll_loop d3 (Nat.le_refl _) (by omega) pz_F 0 (by omega) (by unfold pz_F; omega)
  · rw [if_neg (fun z => c (e.mp z)), if_neg c, ← e9 (rT (ia 0)) (by omega), hq]
    have := m_worthOfAll_loop (mo := mo) (g := g) (t := t) d3 (s := rT (ia 0)) (by omega) (by omega) pz_F 0 (by omega) (by unfold pz_F; omega)
    rw [Nat.add_zero, ← r1] at this
    exact this
end MFS
