/-! ===== shares, lives, odds, annuities, own, payments: the reference ===== -/
def shr (w : Nat → Int32) (k m : Nat) : Int64 := if nS w = 0 then 0 else whl w m * (w (38 + 8 * k)).toInt64 * (wed w k).toInt64 / (1000 * (nS w).toInt64)
/-- lowAge, low, highAge, high behind k years of the table -/
def lvS (w : Nat → Int32) (age : Int32) : Nat → Int32 × Int32 × Int32 × Int32
  | 0 => (0, 100000, 1440, 0)
  | y + 1 => (if age < 12 * w (67 + 2 * y) then (lvS w age y).1 else if 12 * w (67 + 2 * y) < (lvS w age y).1 then (lvS w age y).1 else 12 * w (67 + 2 * y),
      if age < 12 * w (67 + 2 * y) then (lvS w age y).2.1 else if 12 * w (67 + 2 * y) < (lvS w age y).1 then (lvS w age y).2.1 else w (68 + 2 * y),
      if 12 * w (67 + 2 * y) ≤ age then (lvS w age y).2.2.1 else if (lvS w age y).2.2.1 ≤ 12 * w (67 + 2 * y) then (lvS w age y).2.2.1 else 12 * w (67 + 2 * y),
      if 12 * w (67 + 2 * y) ≤ age then (lvS w age y).2.2.2 else if (lvS w age y).2.2.1 ≤ 12 * w (67 + 2 * y) then (lvS w age y).2.2.2 else w (68 + 2 * y))
def lvE (age : Int32) (s : Int32 × Int32 × Int32 × Int32) : Int32 := ((s.2.1.toInt64 * (s.2.2.1 - age).toInt64 + s.2.2.2.toInt64 * (age - s.1).toInt64) / (s.2.2.1 - s.1).toInt64).toInt32
def lvs (w : Nat → Int32) (age : Int32) : Int32 := if age < 1440 then lvE age (lvS w age (cY w)) else 0
theorem yr_toInt {w : Nat → Int32} (hv : Vld w) {y : Nat} (hy : y < cY w) : (12 * w (67 + 2 * y)).toInt = 12 * (w (67 + 2 * y)).toInt := by
  obtain ⟨⟨a, b⟩, -⟩ := hv.2.2.2.2.2.2.2.2.2.2.2.2.2.1 y hy
  rw [i32_mul (by rw [show (12 : Int32).toInt = 12 from rfl]; omega) (by rw [show (12 : Int32).toInt = 12 from rfl]; omega)]; rfl
theorem lvS_inv {w : Nat → Int32} (hv : Vld w) {age : Int32} (h0 : 0 ≤ age.toInt) (h1 : age.toInt < 1440) : ∀ k, k ≤ cY w → (0 ≤ (lvS w age k).1.toInt ∧ (lvS w age k).1.toInt ≤ age.toInt) ∧ (age.toInt < (lvS w age k).2.2.1.toInt ∧ (lvS w age k).2.2.1.toInt ≤ 1440) ∧ (0 ≤ (lvS w age k).2.1.toInt ∧ (lvS w age k).2.1.toInt ≤ 100000) ∧ (0 ≤ (lvS w age k).2.2.2.toInt ∧ (lvS w age k).2.2.2.toInt ≤ 100000)
  | 0, _ => by
    show ((0 : Int) ≤ 0 ∧ (0 : Int) ≤ age.toInt) ∧ (age.toInt < 1440 ∧ (1440 : Int) ≤ 1440) ∧ ((0 : Int) ≤ 100000 ∧ (100000 : Int) ≤ 100000) ∧ ((0 : Int) ≤ 0 ∧ (0 : Int) ≤ 100000)
    omega
  | k + 1, hk => by
    obtain ⟨a1, a2, a3, a4⟩ := lvS_inv hv h0 h1 k (by omega)
    obtain ⟨⟨b1, b2⟩, b3, b4⟩ := hv.2.2.2.2.2.2.2.2.2.2.2.2.2.1 k (by omega)
    have hy := yr_toInt hv (show k < cY w by omega)
    unfold lvS
    dsimp only
    refine ⟨?_, ?_, ?_, ?_⟩
    · split
      · exact a1
      · rename_i c; rw [i32_lt] at c
        split
        · exact a1
        · omega
    · split
      · exact a2
      · rename_i c; rw [i32_le] at c
        split
        · exact a2
        · rename_i c2; rw [i32_le] at c2; omega
    · split
      · exact a3
      · split
        · exact a3
        · exact ⟨b3, b4⟩
    · split
      · exact a4
      · split
        · exact a4
        · exact ⟨b3, b4⟩
theorem lv_wid {w : Nat → Int32} (hv : Vld w) {age : Int32} (h0 : 0 ≤ age.toInt) (h1 : age.toInt < 1440) : ¬ ((lvS w age (cY w)).2.2.1 - (lvS w age (cY w)).1).toInt64 = 0 := by
  obtain ⟨a1, a2, -⟩ := lvS_inv hv h0 h1 (cY w) (Nat.le_refl _)
  rw [i64_eq, i64_of, i32_sub (by omega) (by omega), show (0 : Int64).toInt = 0 from rfl]; omega
section MC3
variable {mo : Nat} {iv : Nat → Int32} {ia : Nat → Nat → Int32} {la : Nat → Nat → Int64} {g : pz_H}
theorem m_livesAt_loop (hv : Vld (ia 0)) {age : Int32} (h0 : 0 ≤ age.toInt) (h1 : age.toInt < 1440) : ∀ (N i : Nat), i ≤ cY (ia 0) → cY (ia 0) - i < N → fX10_livesAt_25 (MH mo iv ia la g) N mo age (lvS (ia 0) age i).1 (lvS (ia 0) age i).2.1 (lvS (ia 0) age i).2.2.1 (lvS (ia 0) age i).2.2.2 (nI i) = some (lvE age (lvS (ia 0) age (cY (ia 0)))) := by
  intro N
  have hn := hv.1.2.2.1
  have h10 := hv.1.2.2.2
  induction N with
  | zero => intro i _ h; omega
  | succ N ih =>
    intro i hi hN
    show fX10_livesAt_25b _ _ _ _ _ _ _ _ _ = _
    unfold fX10_livesAt_25b
    simp only [mh_is, mh_g0, mh_g4, mh_g6, mh_g12, mh_g14, mh_g15, mh_g16, mh_g17, mh_g18, mh_g19, mh_g20, mh_r1, mh_r2, mh_r3, mh_r5, mh_r7, mh_r8, mh_r9, mh_r10, mh_r11, mh_r13, mh_r21, mh_s0, mh_s4, mh_s6, mh_s12, mh_s14, mh_s15, mh_s16, mh_s17, mh_s18, mh_s19, mh_s20, mh_w0, mh_w1, mh_w2, mh_w3, mh_w4, mh_w5, mh_w6, mh_w7, mh_w8, mh_w9, mh_w10, bs]
    rw [hn]
    by_cases h : i = cY (ia 0)
    · rw [← h, if_pos (Int32.le_refl _), h, if_neg (lv_wid hv h0 h1)]; rfl
    · have hlt : i < cY (ia 0) := by omega
      rw [if_neg (by rw [nI_leI (by omega) (by omega)]; omega)]
      have e1 : (67 : Int32) + 2 * nI i = nI (67 + 2 * i) := by rw [show (67 : Int32) = nI 67 from rfl, show (2 : Int32) = nI 2 from rfl, pk_mul, nI_add]
      have e2 : (67 : Int32) + 2 * nI i + 1 = nI (68 + 2 * i) := by rw [e1, nI_1, show 67 + 2 * i + 1 = 68 + 2 * i by omega]
      simp only [mh_i0 e1 (show 67 + 2 * i < 87 by omega), mh_i0 e2 (show 68 + 2 * i < 87 by omega), bs, fX10_livesAt_87, fX10_livesAt_108, nI_1]
      have key := ih (i + 1) (by omega) (by omega)
      rw [lvS] at key
      dsimp only at key
      by_cases c1 : age < 12 * ia 0 (67 + 2 * i)
      · have c2 : ¬ 12 * ia 0 (67 + 2 * i) ≤ age := by rw [i32_lt] at c1; rw [i32_le]; omega
        by_cases c3 : (lvS (ia 0) age i).2.2.1 ≤ 12 * ia 0 (67 + 2 * i)
        · simp only [c1, c2, c3, ↓reduceIte] at key ⊢; exact key
        · simp only [c1, c2, c3, ↓reduceIte] at key ⊢; exact key
      · have c2 : 12 * ia 0 (67 + 2 * i) ≤ age := by rw [i32_lt] at c1; rw [i32_le]; omega
        by_cases c3 : 12 * ia 0 (67 + 2 * i) < (lvS (ia 0) age i).1
        · simp only [c1, c2, c3, ↓reduceIte] at key ⊢; exact key
        · simp only [c1, c2, c3, ↓reduceIte] at key ⊢; exact key
theorem m_livesAt (hv : Vld (ia 0)) {age : Int32} (h0 : 0 ≤ age.toInt) : fnX10_livesAt (MH mo iv ia la g) mo age = some (lvs (ia 0) age) := by
  unfold fnX10_livesAt lvs
  simp only [mh_is, mh_g0, mh_g4, mh_g6, mh_g12, mh_g14, mh_g15, mh_g16, mh_g17, mh_g18, mh_g19, mh_g20, mh_r1, mh_r2, mh_r3, mh_r5, mh_r7, mh_r8, mh_r9, mh_r10, mh_r11, mh_r13, mh_r21, mh_s0, mh_s4, mh_s6, mh_s12, mh_s14, mh_s15, mh_s16, mh_s17, mh_s18, mh_s19, mh_s20, mh_w0, mh_w1, mh_w2, mh_w3, mh_w4, mh_w5, mh_w6, mh_w7, mh_w8, mh_w9, mh_w10, bs]
  by_cases h : age < 1440
  · simp only [h, ↓reduceIte]
    rw [i32_lt] at h
    exact m_livesAt_loop hv h0 h pz_F 0 (by omega) (by have := hv.1.2.2.2; unfold pz_F; omega)
  · simp only [h, ↓reduceIte]
theorem m_shareIn (hv : Vld (ia 0)) (hca : CaOK iv (ia 0) la) {k m : Nat} {p q : Int32} (hp : p = nI k) (hk : k < 4) (hq : q = nI m) (hm : m < 1800) : ∃ iv' la', fnX10_shareIn (MH mo iv ia la g) mo p q = some (shr (ia 0) k m, MH mo iv' ia la' g) ∧ LE (ia 0) iv la iv' la' := by
  obtain ⟨iv', la', h1, h2, h3⟩ := m_lays (mo := mo) (g := g) hv hca
  refine ⟨iv', la', ?_, h2⟩
  unfold fnX10_shareIn fX10_shareIn_45 shr
  simp only [mh_is, mh_g0, mh_g4, mh_g6, mh_g12, mh_g14, mh_g15, mh_g16, mh_g17, mh_g18, mh_g19, mh_g20, mh_r1, mh_r2, mh_r3, mh_r5, mh_r7, mh_r8, mh_r9, mh_r10, mh_r11, mh_r13, mh_r21, mh_s0, mh_s4, mh_s6, mh_s12, mh_s14, mh_s15, mh_s16, mh_s17, mh_s18, mh_s19, mh_s20, mh_w0, mh_w1, mh_w2, mh_w3, mh_w4, mh_w5, mh_w6, mh_w7, mh_w8, mh_w9, mh_w10, bs, h1, m_served hv.c, m_its3 hp hk, m_wedIn hv.c hp hk, mh_l0 hq hm, (h3.2 m hm).1]
  show (if nS (ia 0) = 0 then _ else _) = _
  by_cases c : nS (ia 0) = 0
  · simp only [c, ↓reduceIte]
  · simp only [c, ↓reduceIte]
    show (if (1000 : Int64) * (nS (ia 0)).toInt64 = 0 then _ else _) = _
    rw [if_neg (nS_64 hv c)]; rfl
/-- the odds of one born in b, who lives in t, for the month m -/
def od (w : Nat → Int32) (b t : Int32) (m : Nat) : Int64 := if lvs w (t - b) = 0 then 0 else 1000000000 * (lvs w (nI m - b)).toInt64 / (lvs w (t - b)).toInt64

theorem m_odds2_loop (hv : Vld (ia 0)) {b t : Int32} {who : Int32} (hb : ∀ la, fnX10_bornOf (MH mo iv ia la g) mo who = some b) (hb0 : 0 ≤ b.toInt) (hbt : b.toInt ≤ t.toInt) : ∀ (N i : Nat) (la : Nat → Nat → Int64), t.toInt ≤ i → i ≤ 1800 → 1800 - i < N → (∀ m : Nat, t.toInt ≤ m → m < i → la 2 m = od (ia 0) b t m) → ∃ la', fX10_laysOdds_16 N (MH mo iv ia la g) mo (mo + 6) who (lvs (ia 0) (t - b)) (nI i) = some (MH mo iv ia la' g) ∧ (∀ q, q ≠ 2 → la' q = la q) ∧ ∀ m : Nat, t.toInt ≤ m → m < 1800 → la' 2 m = od (ia 0) b t m := by
  intro N
  induction N with
  | zero => intro i la _ _ h; omega
  | succ N ih =>
    intro i la hti hi hN hla
    show ∃ la', fX10_laysOdds_16b _ _ _ _ _ _ _ = _ ∧ _
    unfold fX10_laysOdds_16b
    by_cases h : i = 1800
    · subst h
      rw [if_pos (by decide)]
      exact ⟨la, rfl, fun _ _ => rfl, hla⟩
    · rw [if_neg (nI_1800 (by omega))]
      have key : ∀ x : Int64, x = od (ia 0) b t i → ∃ la', fX10_laysOdds_57 (fX10_laysOdds_16 N) (MH mo iv ia la g) mo (mo + 6) who (lvs (ia 0) (t - b)) (nI i) x (nI i) (mo + 6) = some (MH mo iv ia la' g) ∧ (∀ q, q ≠ 2 → la' q = la q) ∧ ∀ m : Nat, t.toInt ≤ m → m < 1800 → la' 2 m = od (ia 0) b t m := by
        intro x hx
        unfold fX10_laysOdds_57
        simp only [mh_u2 (i := nI i) rfl (show i < 1800 by omega), bs, nI_1]
        obtain ⟨la', h1, h2, h3⟩ := ih (i + 1) (va_up la 2 (vp_updL (la 2) i x)) (by omega) (by omega) (by omega) (fun m hm1 hm2 => by
          show vp_updL (la 2) i x m = _
          by_cases hji : m = i
          · subst hji; rw [pk_uLs]; exact hx
          · rw [pk_uLn hji]; exact hla m hm1 (by omega))
        refine ⟨la', h1, fun q hq => ?_, h3⟩
        rw [h2 q hq]; unfold va_up; rw [if_neg hq]
      by_cases c : lvs (ia 0) (t - b) = 0
      · rw [if_pos c]
        exact key _ (by unfold od; rw [if_pos c])
      · rw [if_neg c]
        have hage : 0 ≤ (nI i - b).toInt := by rw [i32_sub (by rw [nI_toInt (by omega)]; omega) (by rw [nI_toInt (by omega)]; omega), nI_toInt (by omega)]; omega
        simp only [hb, m_livesAt hv hage, bs]
        rw [if_neg (i64_0 c)]
        exact key _ (by unfold od; rw [if_neg c])
theorem m_odds2 (hv : Vld (ia 0)) {b : Int32} {who : Int32} {t : Nat} {p : Int32} (hp : p = nI t) (ht : t < 1800) (hb : ∀ la, fnX10_bornOf (MH mo iv ia la g) mo who = some b) (hb0 : 0 ≤ b.toInt) (hbt : b.toInt ≤ t) : ∃ la', fnX10_laysOdds (MH mo iv ia la g) mo (mo + 6) who p = some (MH mo iv ia la' g) ∧ (∀ q, q ≠ 2 → la' q = la q) ∧ ∀ m : Nat, t ≤ m → m < 1800 → la' 2 m = od (ia 0) b (nI t) m := by
  subst hp
  have ht2 : (nI t).toInt = t := nI_toInt (by omega)
  unfold fnX10_laysOdds
  have hage : 0 ≤ (nI t - b).toInt := by rw [i32_sub (by omega) (by omega)]; omega
  simp only [mh_is, mh_g0, mh_g4, mh_g6, mh_g12, mh_g14, mh_g15, mh_g16, mh_g17, mh_g18, mh_g19, mh_g20, mh_r1, mh_r2, mh_r3, mh_r5, mh_r7, mh_r8, mh_r9, mh_r10, mh_r11, mh_r13, mh_r21, mh_s0, mh_s4, mh_s6, mh_s12, mh_s14, mh_s15, mh_s16, mh_s17, mh_s18, mh_s19, mh_s20, mh_w0, mh_w1, mh_w2, mh_w3, mh_w4, mh_w5, mh_w6, mh_w7, mh_w8, mh_w9, mh_w10, bs, hb, m_livesAt hv hage]
  obtain ⟨la', h1, h2, h3⟩ := m_odds2_loop (t := nI t) hv hb hb0 (by omega) pz_F t la (by omega) (by omega) (by unfold pz_F; omega) (fun m h1 h2 => by omega)
  exact ⟨la', h1, h2, fun m hm1 hm2 => h3 m (by omega) hm2⟩

theorem m_odds3_loop (hv : Vld (ia 0)) {b t : Int32} {who : Int32} (hb : ∀ la, fnX10_bornOf (MH mo iv ia la g) mo who = some b) (hb0 : 0 ≤ b.toInt) (hbt : b.toInt ≤ t.toInt) : ∀ (N i : Nat) (la : Nat → Nat → Int64), t.toInt ≤ i → i ≤ 1800 → 1800 - i < N → (∀ m : Nat, t.toInt ≤ m → m < i → la 3 m = od (ia 0) b t m) → ∃ la', fX10_laysOdds_16 N (MH mo iv ia la g) mo (mo + 7) who (lvs (ia 0) (t - b)) (nI i) = some (MH mo iv ia la' g) ∧ (∀ q, q ≠ 3 → la' q = la q) ∧ ∀ m : Nat, t.toInt ≤ m → m < 1800 → la' 3 m = od (ia 0) b t m := by
  intro N
  induction N with
  | zero => intro i la _ _ h; omega
  | succ N ih =>
    intro i la hti hi hN hla
    show ∃ la', fX10_laysOdds_16b _ _ _ _ _ _ _ = _ ∧ _
    unfold fX10_laysOdds_16b
    by_cases h : i = 1800
    · subst h
      rw [if_pos (by decide)]
      exact ⟨la, rfl, fun _ _ => rfl, hla⟩
    · rw [if_neg (nI_1800 (by omega))]
      have key : ∀ x : Int64, x = od (ia 0) b t i → ∃ la', fX10_laysOdds_57 (fX10_laysOdds_16 N) (MH mo iv ia la g) mo (mo + 7) who (lvs (ia 0) (t - b)) (nI i) x (nI i) (mo + 7) = some (MH mo iv ia la' g) ∧ (∀ q, q ≠ 3 → la' q = la q) ∧ ∀ m : Nat, t.toInt ≤ m → m < 1800 → la' 3 m = od (ia 0) b t m := by
        intro x hx
        unfold fX10_laysOdds_57
        simp only [mh_u3 (i := nI i) rfl (show i < 1800 by omega), bs, nI_1]
        obtain ⟨la', h1, h2, h3⟩ := ih (i + 1) (va_up la 3 (vp_updL (la 3) i x)) (by omega) (by omega) (by omega) (fun m hm1 hm2 => by
          show vp_updL (la 3) i x m = _
          by_cases hji : m = i
          · subst hji; rw [pk_uLs]; exact hx
          · rw [pk_uLn hji]; exact hla m hm1 (by omega))
        refine ⟨la', h1, fun q hq => ?_, h3⟩
        rw [h2 q hq]; unfold va_up; rw [if_neg hq]
      by_cases c : lvs (ia 0) (t - b) = 0
      · rw [if_pos c]
        exact key _ (by unfold od; rw [if_pos c])
      · rw [if_neg c]
        have hage : 0 ≤ (nI i - b).toInt := by rw [i32_sub (by rw [nI_toInt (by omega)]; omega) (by rw [nI_toInt (by omega)]; omega), nI_toInt (by omega)]; omega
        simp only [hb, m_livesAt hv hage, bs]
        rw [if_neg (i64_0 c)]
        exact key _ (by unfold od; rw [if_neg c])
theorem m_odds3 (hv : Vld (ia 0)) {b : Int32} {who : Int32} {t : Nat} {p : Int32} (hp : p = nI t) (ht : t < 1800) (hb : ∀ la, fnX10_bornOf (MH mo iv ia la g) mo who = some b) (hb0 : 0 ≤ b.toInt) (hbt : b.toInt ≤ t) : ∃ la', fnX10_laysOdds (MH mo iv ia la g) mo (mo + 7) who p = some (MH mo iv ia la' g) ∧ (∀ q, q ≠ 3 → la' q = la q) ∧ ∀ m : Nat, t ≤ m → m < 1800 → la' 3 m = od (ia 0) b (nI t) m := by
  subst hp
  have ht2 : (nI t).toInt = t := nI_toInt (by omega)
  unfold fnX10_laysOdds
  have hage : 0 ≤ (nI t - b).toInt := by rw [i32_sub (by omega) (by omega)]; omega
  simp only [mh_is, mh_g0, mh_g4, mh_g6, mh_g12, mh_g14, mh_g15, mh_g16, mh_g17, mh_g18, mh_g19, mh_g20, mh_r1, mh_r2, mh_r3, mh_r5, mh_r7, mh_r8, mh_r9, mh_r10, mh_r11, mh_r13, mh_r21, mh_s0, mh_s4, mh_s6, mh_s12, mh_s14, mh_s15, mh_s16, mh_s17, mh_s18, mh_s19, mh_s20, mh_w0, mh_w1, mh_w2, mh_w3, mh_w4, mh_w5, mh_w6, mh_w7, mh_w8, mh_w9, mh_w10, bs, hb, m_livesAt hv hage]
  obtain ⟨la', h1, h2, h3⟩ := m_odds3_loop (t := nI t) hv hb hb0 (by omega) pz_F t la (by omega) (by omega) (by unfold pz_F; omega) (fun m h1 h2 => by omega)
  exact ⟨la', h1, h2, fun m hm1 hm2 => h3 m (by omega) hm2⟩
end MC3
