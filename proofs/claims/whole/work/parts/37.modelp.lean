/-! ===== the reference's text: parting, lives, a statement ===== -/
theorem Cur.hr {iv0 iv : Nat → Int32} {ia0 ia : Nat → Nat → Int32} {n a : Nat} (h : Cur iv0 ia0 iv ia n a) : Cur iv0 ia0 (va_up iv 16 (nI (nxA (ia0 4) n a))) ia n (nxA (ia0 4) n a) := by
  obtain ⟨h14, h4, h16, han, hr, ho⟩ := h
  exact ⟨by rw [up_n (by decide)]; exact h14, h4, up_s, (nxA_le (ia0 4) han).2, ⟨up_s, fun z => by rw [up_n (by decide)]; exact hr.2.1 z, fun z => absurd rfl z, fun q hq => by rw [up_n (by omega)]; exact hr.2.2.2 q hq⟩, ho⟩
section MP
variable {mo : Nat} {iv iv0 : Nat → Int32} {ia ia0 : Nat → Nat → Int32} {la : Nat → Nat → Int64} {g : pz_H}
theorem m_stepR {n a : Nat} (h : Cur iv0 ia0 iv ia n a) : fnX10_here (MH mo iv ia la g) mo = some (hrV (ia0 4) n (nxA (ia0 4) n a), MH mo (va_up iv 16 (nI (nxA (ia0 4) n a))) ia la g) := by
  obtain ⟨h14, h4, h16, han, hr, ho⟩ := h
  have := m_here (mo := mo) (ia := ia) (la := la) (g := g) h14 h4 h16 han
  rw [ho 4 (by decide)] at this; exact this
theorem m_stepW {n a : Nat} (h : Cur iv0 ia0 iv ia n a) : ∃ iv1, fnX10_readWord (MH mo iv ia la g) mo = some (wdV (ia0 4) n a, MH mo iv1 ia la g) ∧ Cur iv0 ia0 iv1 ia n (wdE (ia0 4) n a) ∧ iv1 19 = nI a := by
  obtain ⟨h14, h4, h16, han, hr, ho⟩ := h
  obtain ⟨iv1, a1, a2, a3, a4⟩ := m_readWord (mo := mo) (ia := ia) (la := la) (g := g) h14 h4 h16 han
  rw [ho 4 (by decide)] at a1 a2
  exact ⟨iv1, a1, ⟨by rw [a4 14 (by decide) (by decide)]; exact h14, h4, a2, wdE_le han, ⟨a2, fun z => by rw [a4 17 (by decide) (by decide)]; exact hr.2.1 z, fun z => absurd rfl z, fun q hq => by rw [a4 q (by omega) (by omega)]; exact hr.2.2.2 q hq⟩, ho⟩, a3⟩
theorem m_part77 {n a wh : Nat} {v : Int64} {m p h : Int32} (hv : Vld (ia0 0)) (hw : wh ≤ 400) (u0 : Cur iv0 ia0 iv ia n a) (h0 : ia 5 0 = m) (h1 : ia 5 1 = p) (hh : h = if v = 847604 then 1 else 0) : ∃ iv' ia', fX10_readPart_77 (MH mo iv ia la g) mo (nI wh) v = some (okI (nx (nmF (ia0 4) n a 0 1000) (ia0 0) fun a s => nx (enF (ia0 4) n a) (ia0 0) fun a _ => if cP (ia0 0) = 0 then (flt 4 wh, a, ia0 0) else if ia0 0 (37 + 8 * (cP (ia0 0) - 1)) = -1 then (if ia0 0 (36 + 8 * (cP (ia0 0) - 1)) < m then (0, a, prtW (ia0 0) (cP (ia0 0) - 1) m p h s) else (flt 4 wh, a, ia0 0)) else (flt 4 wh, a, ia0 0)).1, MH mo iv' ia' la g) ∧ StR iv0 ia0 iv' ia' (nx (nmF (ia0 4) n a 0 1000) (ia0 0) fun a s => nx (enF (ia0 4) n a) (ia0 0) fun a _ => if cP (ia0 0) = 0 then (flt 4 wh, a, ia0 0) else if ia0 0 (37 + 8 * (cP (ia0 0) - 1)) = -1 then (if ia0 0 (36 + 8 * (cP (ia0 0) - 1)) < m then (0, a, prtW (ia0 0) (cP (ia0 0) - 1) m p h s) else (flt 4 wh, a, ia0 0)) else (flt 4 wh, a, ia0 0)) := by
  unfold fX10_readPart_77 fX10_readPart_96 fX10_readPart_138
  have n4 : ¬ flt 4 wh = 0 := flt_ne (k := 4) (by omega) (by omega) hw
  rcases (m_stepN (mo := mo) (la := la) (g := g) (p := 2) (k := 2) (lo := 0) (hi := 1000) u0 rfl (by decide)).symm with ⟨iv1, ia1, e1, c1, r1⟩ | ⟨iv1, ia1, e1, c1, u1, t1⟩
  · rw [ok_no c1, e1, bs, if_pos rfl, pb0, bs]; exact ⟨iv1, ia1, rfl, r1 _⟩
  rw [e1, bs, if_neg one_0, nx_ok c1]
  rcases (m_stepE (mo := mo) (la := la) (g := g) u1).symm with ⟨iv2, e2, c2, r2⟩ | ⟨iv2, e2, c2, u2⟩
  · rw [ok_no c2, e2, bs, if_pos rfl, pb0, bs]; exact ⟨iv2, ia1, rfl, r2 _⟩
  rw [e2, bs, if_neg one_0, nx_ok c2]
  have v0 : ia1 5 0 = m := by rw [t1, upd_n (by decide)]; exact h0
  have v1 : ia1 5 1 = p := by rw [t1, upd_n (by decide)]; exact h1
  have v2 : ia1 5 2 = (nmF (ia0 4) n a 0 1000).2.2 := by rw [t1, upd_s]
  have w0 : ia1 0 = ia0 0 := u2.2.2.2.2.2 0 (by decide)
  have fin4 : ∃ iv' ia', some ((0 : Int32), MH mo (va_up iv2 17 (4 + 8 * nI wh)) ia1 la g) = some (okI (flt 4 wh), MH mo iv' ia' la g) ∧ StR iv0 ia0 iv' ia' (flt 4 wh, (enF (ia0 4) n (nmF (ia0 4) n a 0 1000).2.1).2.1, ia0 0) :=
    ⟨va_up iv2 17 (flt 4 wh), ia1, by rw [okI_0.mpr n4]; rfl, u2.no (k := 4) (by omega) (by omega) hw⟩
  have hP := hv.1.2.1
  have fin4' : ∃ iv' ia', ((fnX10_fails (MH mo iv2 ia1 la g) mo 4 (nI wh)).bind fun x1 => (pz_b x1.1).bind fun x => some (x, x1.2)) = some (okI (flt 4 wh), MH mo iv' ia' la g) ∧ StR iv0 ia0 iv' ia' (flt 4 wh, (enF (ia0 4) n (nmF (ia0 4) n a 0 1000).2.1).2.1, ia0 0) := by
    rw [m_fails, bs, pb0, bs]; exact fin4
  rw [mh_r1, bs, mh_w4, bs, w0, hP.1]
  by_cases d3 : cP (ia0 0) = 0
  · rw [if_pos d3, if_pos (by rw [d3]; decide)]; exact fin4'
  rw [if_neg d3, pred_nI (by omega), if_neg (by rw [show (0 : Int32) = nI 0 from rfl, nI_ltI (by omega) (by omega)]; omega)]
  have hk4 : cP (ia0 0) - 1 < 4 := by omega
  have ix2 : (35 : Int32) + (8 : Int32) * nI (cP (ia0 0) - 1) + 2 = nI (37 + 8 * (cP (ia0 0) - 1)) := by
    rw [show (35 : Int32) = nI 35 from rfl, show (8 : Int32) = nI 8 from rfl, show (2 : Int32) = nI 2 from rfl, pk_mul, nI_add, nI_add, show 35 + 8 * (cP (ia0 0) - 1) + 2 = 37 + 8 * (cP (ia0 0) - 1) by omega]
  have ix3 : (35 : Int32) + (8 : Int32) * nI (cP (ia0 0) - 1) + 3 = nI (38 + 8 * (cP (ia0 0) - 1)) := by
    rw [show (35 : Int32) = nI 35 from rfl, show (8 : Int32) = nI 8 from rfl, show (3 : Int32) = nI 3 from rfl, pk_mul, nI_add, nI_add, show 35 + 8 * (cP (ia0 0) - 1) + 3 = 38 + 8 * (cP (ia0 0) - 1) by omega]
  have ix4 : (35 : Int32) + (8 : Int32) * nI (cP (ia0 0) - 1) + 4 = nI (39 + 8 * (cP (ia0 0) - 1)) := by
    rw [show (35 : Int32) = nI 35 from rfl, show (8 : Int32) = nI 8 from rfl, show (4 : Int32) = nI 4 from rfl, pk_mul, nI_add, nI_add, show 35 + 8 * (cP (ia0 0) - 1) + 4 = 39 + 8 * (cP (ia0 0) - 1) by omega]
  have ix5 : (35 : Int32) + (8 : Int32) * nI (cP (ia0 0) - 1) + 5 = nI (40 + 8 * (cP (ia0 0) - 1)) := by
    rw [show (35 : Int32) = nI 35 from rfl, show (8 : Int32) = nI 8 from rfl, show (5 : Int32) = nI 5 from rfl, pk_mul, nI_add, nI_add, show 35 + 8 * (cP (ia0 0) - 1) + 5 = 40 + 8 * (cP (ia0 0) - 1) by omega]
  rw [m_isParted (p := nI (cP (ia0 0) - 1)) rfl hk4, bs, w0]
  by_cases d4 : ia0 0 (37 + 8 * (cP (ia0 0) - 1)) = -1
  · rw [if_pos d4, if_pos d4, if_pos rfl, mh_r21, bs, mh_i5 (i := (0 : Int32)) (k := 0) rfl (by decide), bs, m_its1 (p := nI (cP (ia0 0) - 1)) rfl hk4, bs, v0, w0]
    by_cases d5 : ia0 0 (36 + 8 * (cP (ia0 0) - 1)) < m
    · rw [if_pos d5, if_pos d5, bs, bs, mh_i5 (i := (0 : Int32)) (k := 0) rfl (by decide), bs, mh_t0 ix2 (by omega), bs, mh_r1, bs, mh_r21, bs, mh_i5 (i := (1 : Int32)) (k := 1) rfl (by decide), bs, mh_t0 ix3 (by omega), bs, mh_r1, bs]
      have fin : ∀ x : Int32, x = h → ∃ iv' ia', fX10_readPart_214 (MH mo iv2 (va_up (va_up ia1 0 (upd (ia1 0) (37 + 8 * (cP (ia0 0) - 1)) (ia1 5 0))) 0 (upd (va_up ia1 0 (upd (ia1 0) (37 + 8 * (cP (ia0 0) - 1)) (ia1 5 0)) 0) (38 + 8 * (cP (ia0 0) - 1)) (va_up ia1 0 (upd (ia1 0) (37 + 8 * (cP (ia0 0) - 1)) (ia1 5 0)) 5 1))) la g) mo (nI (cP (ia0 0) - 1)) x (35 + 8 * nI (cP (ia0 0) - 1) + 4) (mo + 1) = some (okI 0, MH mo iv' ia' la g) ∧ StR iv0 ia0 iv' ia' (0, (enF (ia0 4) n (nmF (ia0 4) n a 0 1000).2.1).2.1, prtW (ia0 0) (cP (ia0 0) - 1) m p h (nmF (ia0 4) n a 0 1000).2.2) := by
        intro x hx
        unfold fX10_readPart_214
        rw [up_s, up_up, up_n (show 5 ≠ 0 by decide), mh_t0 ix4 (by omega), bs, mh_r1, bs, mh_r21, bs, mh_i5 (i := (2 : Int32)) (k := 2) rfl (by decide), bs, mh_t0 ix5 (by omega), bs, up_s, up_s, up_up, up_up, up_n (show 5 ≠ 0 by decide), up_n (show 5 ≠ 0 by decide), pb1, bs, v0, v1, v2, w0, hx]
        exact ⟨iv2, _, rfl, u2.ok⟩
      by_cases d6 : v = 847604
      · rw [if_pos d6] at hh
        rw [if_pos (lg_0.mpr d6)]; exact fin 1 hh.symm
      · rw [if_neg d6] at hh
        rw [if_neg (fun z => d6 (lg_0.mp z))]; exact fin 0 hh.symm
    · rw [if_neg d5, if_neg d5]; exact fin4'
  · rw [if_neg d4, if_neg d4, if_neg one_0]; exact fin4'
theorem m_part {n a wh : Nat} {q : Int32} (hv : Vld (ia 0)) (hq : q = nI wh) (hw : wh ≤ 400) (u0 : Cur iv ia iv ia n a) : ∃ iv' ia', fnX10_readPart (MH mo iv ia la g) mo q = some (okI (prtF (ia 4) n a wh (ia 0)).1, MH mo iv' ia' la g) ∧ StR iv ia iv' ia' (prtF (ia 4) n a wh (ia 0)) := by
  subst hq
  unfold fnX10_readPart fX10_readPart_20 prtF
  simp only [mh_is, bs, pb0, pb1]
  rcases (m_stepM (mo := mo) (la := la) (g := g) (p := 0) (k := 0) u0 rfl (by decide)).symm with ⟨iv1, ia1, e1, c1, r1⟩ | ⟨iv1, ia1, e1, c1, u1, t1⟩
  · rw [ok_no c1, e1, bs, if_pos rfl]; exact ⟨iv1, ia1, rfl, r1 _⟩
  rw [e1, bs, if_neg one_0, nx_ok c1]
  rcases (m_stepN (mo := mo) (la := la) (g := g) (p := 1) (k := 1) (lo := 0) (hi := 1000) u1 rfl (by decide)).symm with ⟨iv2, ia2, e2, c2, r2⟩ | ⟨iv2, ia2, e2, c2, u2, t2⟩
  · rw [ok_no c2, e2, bs, if_pos rfl]; exact ⟨iv2, ia2, rfl, r2 _⟩
  rw [e2, bs, if_neg one_0, nx_ok c2]
  have v0 : ia2 5 0 = (nmF (ia 4) n a 0 1799).2.2 := by rw [t2, upd_n (by decide), t1, upd_s]
  have v1 : ia2 5 1 = (nmF (ia 4) n (nmF (ia 4) n a 0 1799).2.1 0 1000).2.2 := by rw [t2, upd_s]
  revert v0 v1 u2
  generalize (nmF (ia 4) n a 0 1799).2.2 = m
  generalize (nmF (ia 4) n (nmF (ia 4) n a 0 1799).2.1 0 1000).2.2 = p
  generalize (nmF (ia 4) n (nmF (ia 4) n a 0 1799).2.1 0 1000).2.1 = a2
  intro u2 v0 v1
  have u3 := u2.hr
  have hb := u3.2.2.2.1
  have hn4 := u3.2.1
  rw [m_stepR u2, bs]
  simp only [m_in, bs, mh_g16, m_fails, pb0]
  have n1 : ¬ flt 1 (nxA (ia 4) n a2) = 0 := flt_ne (k := 1) (by omega) (by omega) (by omega)
  by_cases d1 : inI (hrV (ia 4) n (nxA (ia 4) n a2)) 97 122 = 0
  · have e : howF (ia 4) n a2 = (flt 1 (nxA (ia 4) n a2), nxA (ia 4) n a2, 0) := by unfold howF; rw [if_pos d1]
    rw [if_pos d1, e, nx_no n1, up_s]
    exact ⟨va_up (va_up iv2 16 (nI (nxA (ia 4) n a2))) 17 (flt 1 (nxA (ia 4) n a2)), ia2, by rw [okI_0.mpr n1]; rfl, u3.no (k := 1) (by omega) (by omega) (by omega)⟩
  rw [if_neg d1]
  obtain ⟨iv4, e4, u4, h19⟩ := m_stepW (mo := mo) (la := la) (g := g) u3
  rw [e4, bs]
  by_cases d2 : wdV (ia 4) n (nxA (ia 4) n a2) = 276913705
  · have e : howF (ia 4) n a2 = (0, wdE (ia 4) n (nxA (ia 4) n a2), 0) := by unfold howF; rw [if_neg d1, if_pos d2]
    rw [if_pos (lg_0.mpr d2), e, nx_ok rfl]
    exact m_part77 hv hw u4 v0 v1 (by rw [d2]; rfl)
  rw [if_neg (fun z => d2 (lg_0.mp z))]
  by_cases d3 : wdV (ia 4) n (nxA (ia 4) n a2) = 847604
  · have e : howF (ia 4) n a2 = (0, wdE (ia 4) n (nxA (ia 4) n a2), 1) := by unfold howF; rw [if_neg d1, if_neg d2, if_pos d3]
    rw [if_pos (lg_0.mpr d3), e, nx_ok rfl]
    exact m_part77 hv hw u4 v0 v1 (by rw [d3]; rfl)
  rw [if_neg (fun z => d3 (lg_0.mp z))]
  have e : howF (ia 4) n a2 = (flt 1 (nxA (ia 4) n a2), wdE (ia 4) n (nxA (ia 4) n a2), 0) := by unfold howF; rw [if_neg d1, if_neg d2, if_neg d3]
  rw [e, nx_no n1]
  simp only [mh_g19, bs, m_fails, pb0, h19]
  exact ⟨va_up iv4 17 (flt 1 (nxA (ia 4) n a2)), ia2, by rw [okI_0.mpr n1]; rfl, u4.no (k := 1) (by omega) (by omega) (by omega)⟩
theorem lfS_le {w : Nat → Int32} {y v : Int32} : ∀ i, i ≤ cY w → (lfS w y v i).1 ≤ cY w
  | 0, _ => Nat.le_refl _
  | i + 1, h => by
    have := lfS_le (w := w) (y := y) (v := v) i (by omega)
    unfold lfS
    by_cases c : w (67 + 2 * i) = y
    · show (if w (67 + 2 * i) = y then i else _) ≤ _; rw [if_pos c]; omega
    · show (if w (67 + 2 * i) = y then i else _) ≤ _; rw [if_neg c]; exact this
theorem m_liv43 {n a wh : Nat} {y v : Int32} (hv : Vld (ia0 0)) (hw : wh ≤ 400) (u0 : Cur iv0 ia0 iv ia n a) (h0 : ia 5 0 = y) (h1 : ia 5 1 = v) : ∀ (N i : Nat), i ≤ cY (ia0 0) → cY (ia0 0) - i < N → ∃ iv' ia', fX10_readLives_43 N (MH mo iv ia la g) mo (nI wh) (nI (lfS (ia0 0) y v i).1) (lfS (ia0 0) y v i).2 (nI i) = some (okI (if (lfS (ia0 0) y v (cY (ia0 0))).2 = 0 then (flt 4 wh, a, ia0 0) else if (lfS (ia0 0) y v (cY (ia0 0))).1 = 10 then (flt 4 wh, a, ia0 0) else (0, a, livW (ia0 0) (lfS (ia0 0) y v (cY (ia0 0))).1 y v)).1, MH mo iv' ia' la g) ∧ StR iv0 ia0 iv' ia' (if (lfS (ia0 0) y v (cY (ia0 0))).2 = 0 then (flt 4 wh, a, ia0 0) else if (lfS (ia0 0) y v (cY (ia0 0))).1 = 10 then (flt 4 wh, a, ia0 0) else (0, a, livW (ia0 0) (lfS (ia0 0) y v (cY (ia0 0))).1 y v)) := by
  intro N
  have hY := hv.1.2.2
  have w0 : ia 0 = ia0 0 := u0.2.2.2.2.2 0 (by decide)
  have n4 : ¬ flt 4 wh = 0 := flt_ne (k := 4) (by omega) (by omega) hw
  induction N with
  | zero => intro i _ h; omega
  | succ N ih =>
    intro i hi hN
    show ∃ iv' ia', fX10_readLives_43b _ _ _ _ _ _ _ = _ ∧ _
    unfold fX10_readLives_43b
    simp only [mh_r1, mh_w5, bs, w0]
    rw [hY.1]
    by_cases c : i = cY (ia0 0)
    · subst c
      rw [if_pos (Int32.le_refl _)]
      have hs := lfS_le (w := ia0 0) (y := y) (v := v) (cY (ia0 0)) (Nat.le_refl _)
      unfold fX10_readLives_172 fX10_readLives_201
      simp only [m_fails, bs, pb0, pb1]
      have fin4 : ∃ iv' ia', some ((0 : Int32), MH mo (va_up iv 17 (4 + 8 * nI wh)) ia la g) = some (okI (flt 4 wh), MH mo iv' ia' la g) ∧ StR iv0 ia0 iv' ia' (flt 4 wh, a, ia0 0) :=
        ⟨va_up iv 17 (flt 4 wh), ia, by rw [okI_0.mpr n4]; rfl, u0.no (k := 4) (by omega) (by omega) hw⟩
      by_cases d1 : (lfS (ia0 0) y v (cY (ia0 0))).2 = 0
      · rw [if_pos d1, if_pos d1]; exact fin4
      rw [if_neg d1, if_neg d1]
      revert hs
      generalize (lfS (ia0 0) y v (cY (ia0 0))).1 = s
      intro hs
      by_cases d2 : s = 10
      · rw [if_pos d2, if_pos (by rw [d2]; rfl)]; exact fin4
      have ixa : (67 : Int32) + (2 : Int32) * nI s = nI (67 + 2 * s) := by
        rw [show (67 : Int32) = nI 67 from rfl, show (2 : Int32) = nI 2 from rfl, pk_mul, nI_add]
      have ixb : (67 : Int32) + (2 : Int32) * nI s + 1 = nI (68 + 2 * s) := by
        rw [ixa, nI_1, show 67 + 2 * s + 1 = 68 + 2 * s by omega]
      rw [if_neg d2, if_neg (by rw [show (10 : Int32) = nI 10 from rfl, i32_eq, nI_toInt (by omega), nI_toInt (by decide)]; omega)]
      have go : ∀ x : Int32, x = (if s = cY (ia0 0) then 1 else 0) → ∃ iv' ia', ((pz_tI (MH mo iv ia la g) (mo + 1) 0 5 (nI (cY (ia0 0)) + x)).bind fun f1 => (pz_gR f1 mo 9 1).bind fun v2 => (pz_gR f1 mo 9 21).bind fun v3 => (pz_aI f1 v3 0 0).bind fun v4 => (pz_tI f1 v2 0 (67 + 2 * nI s) v4).bind fun f5 => (pz_gR f5 mo 9 1).bind fun v6 => (pz_gR f5 mo 9 21).bind fun v7 => (pz_aI f5 v7 0 1).bind fun v8 => (pz_tI f5 v6 0 (67 + 2 * nI s + 1) v8).bind fun f9 => some ((1 : Int32), f9)) = some (okI 0, MH mo iv' ia' la g) ∧ StR iv0 ia0 iv' ia' (0, a, livW (ia0 0) s y v) := by
        intro x hx
        simp only [mh_t0 (i := (5 : Int32)) (k := 5) rfl (by decide), bs, mh_r1, mh_r21, mh_i5 (i := (0 : Int32)) (k := 0) rfl (by decide), mh_i5 (i := (1 : Int32)) (k := 1) rfl (by decide), mh_t0 ixa (show 67 + 2 * s < 87 by omega), mh_t0 ixb (show 68 + 2 * s < 87 by omega), up_s, up_up, up_n (show 5 ≠ 0 by decide), h0, h1, w0]
        refine ⟨iv, _, rfl, ?_⟩
        unfold livW
        rw [hx, hY.1]
        exact u0.ok
      by_cases d3 : s = cY (ia0 0)
      · rw [if_pos (by rw [d3])]; exact go 1 (by rw [if_pos d3])
      · rw [if_neg (by rw [i32_eq, nI_toInt (by omega), nI_toInt (by omega)]; omega)]; exact go 0 (by rw [if_neg d3])
    · have hlt : i < cY (ia0 0) := by omega
      rw [if_neg (by rw [nI_leI (by omega) (by omega)]; omega)]
      have ixa : (67 : Int32) + (2 : Int32) * nI i = nI (67 + 2 * i) := by
        rw [show (67 : Int32) = nI 67 from rfl, show (2 : Int32) = nI 2 from rfl, pk_mul, nI_add]
      have ixb : (67 : Int32) + (2 : Int32) * nI i + 1 = nI (68 + 2 * i) := by
        rw [ixa, nI_1, show 67 + 2 * i + 1 = 68 + 2 * i by omega]
      unfold fX10_readLives_101 fX10_readLives_128 fX10_readLives_150 fX10_readLives_154 fX10_readLives_155
      simp only [mh_i0 ixa (show 67 + 2 * i < 87 by omega), mh_i0 ixb (show 68 + 2 * i < 87 by omega), mh_r21, bs, mh_i5 (i := (0 : Int32)) (k := 0) rfl (by decide), mh_i5 (i := (1 : Int32)) (k := 1) rfl (by decide), h0, h1, w0, nI_1]
      have key := ih (i + 1) (by omega) (by omega)
      have hl : lfS (ia0 0) y v (i + 1) = (if ia0 0 (67 + 2 * i) = y then i else (lfS (ia0 0) y v i).1, if (lfS (ia0 0) y v i).2 = 0 then 0 else lfC (ia0 0 (67 + 2 * i)) (ia0 0 (68 + 2 * i)) y v) := rfl
      rw [hl] at key
      have e2 : ∀ (A : Type) (c : Prop) [Decidable c] (x y : Nat) , nI (if c then x else y) = if c then nI x else nI y := fun A c _ x y => by split <;> rfl
      unfold lfC at key
      by_cases d1 : ia0 0 (67 + 2 * i) = y
      · rw [if_pos d1]
        rw [if_pos d1] at key
        by_cases d2 : (lfS (ia0 0) y v i).2 = 0
        · simp only [d2, ↓reduceIte] at key ⊢; exact key
        · simp only [d2, ↓reduceIte] at key ⊢
          by_cases d3 : y ≤ ia0 0 (67 + 2 * i) <;> by_cases d4 : ia0 0 (67 + 2 * i) ≤ y <;> by_cases d5 : v < ia0 0 (68 + 2 * i) <;> by_cases d6 : ia0 0 (68 + 2 * i) < v <;> simp only [d3, d4, d5, d6, ↓reduceIte] at key ⊢ <;> exact key
      · rw [if_neg d1]
        rw [if_neg d1] at key
        by_cases d2 : (lfS (ia0 0) y v i).2 = 0
        · simp only [d2, ↓reduceIte] at key ⊢; exact key
        · simp only [d2, ↓reduceIte] at key ⊢
          by_cases d3 : y ≤ ia0 0 (67 + 2 * i) <;> by_cases d4 : ia0 0 (67 + 2 * i) ≤ y <;> by_cases d5 : v < ia0 0 (68 + 2 * i) <;> by_cases d6 : ia0 0 (68 + 2 * i) < v <;> simp only [d3, d4, d5, d6, ↓reduceIte] at key ⊢ <;> exact key
theorem m_livs {n a wh : Nat} {q : Int32} (hv : Vld (ia 0)) (hq : q = nI wh) (hw : wh ≤ 400) (u0 : Cur iv ia iv ia n a) : ∃ iv' ia', fnX10_readLives (MH mo iv ia la g) mo q = some (okI (livF (ia 4) n a wh (ia 0)).1, MH mo iv' ia' la g) ∧ StR iv ia iv' ia' (livF (ia 4) n a wh (ia 0)) := by
  subst hq
  unfold fnX10_readLives fX10_readLives_29 livF
  simp only [mh_is, bs, pb0, pb1]
  rcases (m_stepN (mo := mo) (la := la) (g := g) (p := 0) (k := 0) (lo := 1) (hi := 119) u0 rfl (by decide)).symm with ⟨iv1, ia1, e1, c1, r1⟩ | ⟨iv1, ia1, e1, c1, u1, t1⟩
  · rw [ok_no c1, e1, bs, if_pos rfl]; exact ⟨iv1, ia1, rfl, r1 _⟩
  rw [e1, bs, if_neg one_0, nx_ok c1]
  rcases (m_stepN (mo := mo) (la := la) (g := g) (p := 1) (k := 1) (lo := 0) (hi := 100000) u1 rfl (by decide)).symm with ⟨iv2, ia2, e2, c2, r2⟩ | ⟨iv2, ia2, e2, c2, u2, t2⟩
  · rw [ok_no c2, e2, bs, if_pos rfl]; exact ⟨iv2, ia2, rfl, r2 _⟩
  rw [e2, bs, if_neg one_0, nx_ok c2]
  rcases (m_stepE (mo := mo) (la := la) (g := g) u2).symm with ⟨iv3, e3, c3, r3⟩ | ⟨iv3, e3, c3, u3⟩
  · rw [ok_no c3, e3, bs, if_pos rfl]; exact ⟨iv3, ia2, rfl, r3 _⟩
  rw [e3, bs, if_neg one_0, nx_ok c3]
  have v0 : ia2 5 0 = (nmF (ia 4) n a 1 119).2.2 := by rw [t2, upd_n (by decide), t1, upd_s]
  have v1 : ia2 5 1 = (nmF (ia 4) n (nmF (ia 4) n a 1 119).2.1 0 100000).2.2 := by rw [t2, upd_s]
  have w0 : ia2 0 = ia 0 := u3.2.2.2.2.2 0 (by decide)
  have hY := hv.1.2.2
  simp only [mh_r1, bs, mh_w5, w0]
  rw [hY.1]
  exact m_liv43 hv hw u3 v0 v1 pz_F 0 (by omega) (by unfold pz_F; omega)
theorem okI_pb (c : Int32) (f : pz_H) : ((some (okI c, f)).bind fun x1 => (pz_b x1.1).bind fun x => some (x, x1.2)) = some (okI c, f) := by rw [bs, okI_b]; rfl
theorem m_termOf (v : Int64) : fnX10_termOf v = some (trmV v) := by
  unfold fnX10_termOf fX10_termOf_66 trmV
  by_cases d1 : v = 11817
  · rw [if_pos (lg_0.mpr d1), if_pos d1]
  rw [if_neg (fun z => d1 (lg_0.mp z)), if_neg d1]
  by_cases d2 : v = 209220123
  · rw [if_pos (lg_0.mpr d2), if_pos d2]
  rw [if_neg (fun z => d2 (lg_0.mp z)), if_neg d2]
  by_cases d3 : v = 2690359
  · rw [if_pos (lg_0.mpr d3), if_pos d3]
  rw [if_neg (fun z => d3 (lg_0.mp z)), if_neg d3]
  by_cases d4 : v = 70309
  · rw [if_pos (lg_0.mpr d4), if_pos d4]
  rw [if_neg (fun z => d4 (lg_0.mp z)), if_neg d4]
  by_cases d5 : v = 99857059490
  · rw [if_pos (lg_0.mpr d5), if_pos d5]
  rw [if_neg (fun z => d5 (lg_0.mp z)), if_neg d5]
theorem StR.of {iv1 iv' : Nat → Int32} {ia' : Nat → Nat → Int32} {r : Int32 × Nat × (Nat → Int32)} {n a : Nat} (h : Cur iv0 ia0 iv1 ia0 n a) (h2 : StR iv1 ia0 iv' ia' r) : StR iv0 ia0 iv' ia' r := ⟨h.2.2.2.2.1.tr h2.1, h2.2⟩
theorem m_stmt {n a : Nat} (hv : Vld (ia 0)) (u0 : Cur iv ia iv ia n a) : ∃ iv' ia', fnX10_readStatement (MH mo iv ia la g) mo = some (okI (stmF (ia 4) n a (ia 0)).1, MH mo iv' ia' la g) ∧ StR iv ia iv' ia' (stmF (ia 4) n a (ia 0)) := by
  unfold fnX10_readStatement fX10_readStatement_119 fX10_readStatement_154 fX10_readStatement_134 fX10_readStatement_170 fX10_readStatement_200
  have u1 := u0.hr
  have hb := u1.2.2.2.1
  have hn4 := u1.2.1
  have n1 : ¬ flt 1 (nxA (ia 4) n a) = 0 := flt_ne (k := 1) (by omega) (by omega) (by omega)
  simp only [mh_is, bs]
  rw [m_stepR u0, bs]
  simp only [m_in, bs, mh_g16, m_fails, pb0, up_s]
  unfold stmF
  by_cases d1 : inI (hrV (ia 4) n (nxA (ia 4) n a)) 97 122 = 0
  · rw [if_pos d1, if_pos d1]
    exact ⟨va_up (va_up iv 16 (nI (nxA (ia 4) n a))) 17 (flt 1 (nxA (ia 4) n a)), ia, by rw [okI_0.mpr n1]; rfl, u1.no (k := 1) (by omega) (by omega) (by omega)⟩
  rw [if_neg d1, if_neg d1]
  obtain ⟨iv2, e2, u2, h19⟩ := m_stepW (mo := mo) (la := la) (g := g) u1
  rw [e2, bs]
  dsimp only
  rw [mh_g19, bs, h19]
  have hwh : nxA (ia 4) n a ≤ 400 := by omega
  have uu : Cur iv2 ia iv2 ia n (wdE (ia 4) n (nxA (ia 4) n a)) := Cur.beg u2.1 u2.2.1 u2.2.2.1 u2.2.2.2.1
  generalize wdV (ia 4) n (nxA (ia 4) n a) = v
  unfold stmB
  by_cases f0 : v = 50801
  · rw [if_pos (lg_0.mpr f0), if_pos f0]
    obtain ⟨iv3, ia3, e3, r3⟩ := m_born (mo := mo) (la := la) (g := g) uu
    rw [e3, okI_pb]; exact ⟨iv3, ia3, rfl, StR.of u2 r3⟩
  rw [if_neg (fun z => f0 (lg_0.mp z)), if_neg f0]
  by_cases f1 : v = 10209515
  · rw [if_pos (lg_0.mpr f1), if_pos f1]
    obtain ⟨iv3, ia3, e3, r3⟩ := m_serve (mo := mo) (la := la) (g := g) hv rfl hwh uu
    rw [e3, okI_pb]; exact ⟨iv3, ia3, rfl, StR.of u2 r3⟩
  rw [if_neg (fun z => f1 (lg_0.mp z)), if_neg f1]
  by_cases f2 : v = 16906
  · rw [if_pos (lg_0.mpr f2), if_pos f2]
    obtain ⟨iv3, ia3, e3, r3⟩ := m_wed (mo := mo) (la := la) (g := g) hv rfl hwh uu
    rw [e3, okI_pb]; exact ⟨iv3, ia3, rfl, StR.of u2 r3⟩
  rw [if_neg (fun z => f2 (lg_0.mp z)), if_neg f2]
  by_cases f3 : v = 316163
  · rw [if_pos (lg_0.mpr f3), if_pos f3]
    obtain ⟨iv3, ia3, e3, r3⟩ := m_part (mo := mo) (la := la) (g := g) hv rfl hwh uu
    rw [e3, okI_pb]; exact ⟨iv3, ia3, rfl, StR.of u2 r3⟩
  rw [if_neg (fun z => f3 (lg_0.mp z)), if_neg f3]
  by_cases f4 : v = 6570631
  · rw [if_pos (lg_0.mpr f4), if_pos f4]
    obtain ⟨iv3, ia3, e3, r3⟩ := m_livs (mo := mo) (la := la) (g := g) hv rfl hwh uu
    rw [e3, okI_pb]; exact ⟨iv3, ia3, rfl, StR.of u2 r3⟩
  rw [if_neg (fun z => f4 (lg_0.mp z)), if_neg f4]
  by_cases f5 : v = 1831504
  · rw [if_pos (lg_0.mpr f5), if_pos (lg_0.mpr f5), if_pos f5]
    obtain ⟨iv3, ia3, e3, r3⟩ := m_ofs (mo := mo) (la := la) (g := g) (what := 4) hv rfl hwh uu
    rw [e3, okI_pb]; exact ⟨iv3, ia3, rfl, StR.of u2 r3⟩
  rw [if_neg (fun z => f5 (lg_0.mp z)), if_neg (fun z => f5 (lg_0.mp z)), if_neg f5]
  by_cases f6 : v = 247664
  · rw [if_pos (lg_0.mpr f6), if_pos f6]
    obtain ⟨iv3, ia3, e3, r3⟩ := m_ofs (mo := mo) (la := la) (g := g) (what := 5) hv rfl hwh uu
    rw [e3, okI_pb]; exact ⟨iv3, ia3, rfl, StR.of u2 r3⟩
  rw [if_neg (fun z => f6 (lg_0.mp z)), if_neg f6]
  by_cases f7 : v = 85447
  · rw [if_pos (lg_0.mpr f7), if_pos (lg_0.mpr f7), if_pos f7]
    obtain ⟨iv3, ia3, e3, r3⟩ := m_one (mo := mo) (la := la) (g := g) (what := 6) hv rfl hwh uu
    rw [e3, okI_pb]; exact ⟨iv3, ia3, rfl, StR.of u2 r3⟩
  rw [if_neg (fun z => f7 (lg_0.mp z)), if_neg (fun z => f7 (lg_0.mp z)), if_neg f7]
  by_cases f8 : v = 261338243
  · rw [if_pos (lg_0.mpr f8), if_pos f8]
    obtain ⟨iv3, ia3, e3, r3⟩ := m_one (mo := mo) (la := la) (g := g) (what := 0) hv rfl hwh uu
    rw [e3, okI_pb]; exact ⟨iv3, ia3, rfl, StR.of u2 r3⟩
  rw [if_neg (fun z => f8 (lg_0.mp z)), if_neg f8]
  simp only [m_termOf, bs]
  by_cases f9 : trmV v = -1
  · rw [if_pos f9, if_pos f9]
    simp only [m_fails, bs, pb0]
    exact ⟨va_up iv2 17 (flt 1 (nxA (ia 4) n a)), ia, by rw [okI_0.mpr n1]; rfl, u2.no (k := 1) (by omega) (by omega) (by omega)⟩
  rw [if_neg f9, if_neg f9]
  obtain ⟨iv3, ia3, e3, r3⟩ := m_one (mo := mo) (la := la) (g := g) (what := trmV v) hv rfl hwh uu
  rw [e3, okI_pb]; exact ⟨iv3, ia3, rfl, StR.of u2 r3⟩
end MP
