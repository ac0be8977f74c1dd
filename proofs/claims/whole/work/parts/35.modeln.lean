/-! ===== the reference's text: statements ===== -/
def nx (r : Int32 × Nat × Int32) (w : Nat → Int32) (K : Nat → Int32 → Int32 × Nat × (Nat → Int32)) : Int32 × Nat × (Nat → Int32) := if r.1 = 0 then K r.2.1 r.2.2 else (r.1, r.2.1, w)
theorem nx_ok {r : Int32 × Nat × Int32} {w : Nat → Int32} {K : Nat → Int32 → Int32 × Nat × (Nat → Int32)} (h : r.1 = 0) : nx r w K = K r.2.1 r.2.2 := if_pos h
theorem nx_no {r : Int32 × Nat × Int32} {w : Nat → Int32} {K : Nat → Int32 → Int32 × Nat × (Nat → Int32)} (h : ¬ r.1 = 0) : nx r w K = (r.1, r.2.1, w) := if_neg h
theorem one_0 : ¬ (1 : Int32) = 0 := by decide
/-- behind a statement, or where it failed -/
def StR (iv : Nat → Int32) (ia : Nat → Nat → Int32) (iv' : Nat → Int32) (ia' : Nat → Nat → Int32) (r : Int32 × Nat × (Nat → Int32)) : Prop := RdR iv iv' r.1 r.2.1 ∧ ia' 0 = r.2.2 ∧ ∀ j, j ≠ 0 → j ≠ 5 → ia' j = ia j
/-- within a statement: nothing has failed yet -/
def Cur (iv0 : Nat → Int32) (ia0 : Nat → Nat → Int32) (iv : Nat → Int32) (ia : Nat → Nat → Int32) (n a : Nat) : Prop := iv 14 = nI n ∧ n ≤ 400 ∧ iv 16 = nI a ∧ a ≤ n ∧ RdR iv0 iv 0 a ∧ ∀ j, j ≠ 5 → ia j = ia0 j
theorem Cur.beg {iv : Nat → Int32} {ia : Nat → Nat → Int32} {n a : Nat} (hn : iv 14 = nI n) (h4 : n ≤ 400) (ha : iv 16 = nI a) (han : a ≤ n) : Cur iv ia iv ia n a := ⟨hn, h4, ha, han, ⟨ha, fun _ => rfl, fun z => absurd rfl z, fun _ _ => rfl⟩, fun _ _ => rfl⟩
theorem RdR.tr {iv iv1 iv2 : Nat → Int32} {c : Int32} {a e : Nat} (h : RdR iv iv1 0 a) (h2 : RdR iv1 iv2 c e) : RdR iv iv2 c e := ⟨h2.1, fun z => (h2.2.1 z).trans (h.2.1 rfl), h2.2.2.1, fun q hq => (h2.2.2.2 q hq).trans (h.2.2.2 q hq)⟩
theorem Cur.ok {iv0 iv : Nat → Int32} {ia0 ia : Nat → Nat → Int32} {n a : Nat} {w : Nat → Int32} (h : Cur iv0 ia0 iv ia n a) : StR iv0 ia0 iv (va_up ia 0 w) (0, a, w) := ⟨h.2.2.2.2.1, up_s, fun j h0 h5 => by rw [up_n h0]; exact h.2.2.2.2.2 j h5⟩
theorem Cur.no {iv0 iv : Nat → Int32} {ia0 ia : Nat → Nat → Int32} {n a wh k : Nat} (h : Cur iv0 ia0 iv ia n a) (hk : 1 ≤ k) (hk2 : k < 8) (hw : wh ≤ 400) : StR iv0 ia0 (va_up iv 17 (flt (nI k) wh)) ia (flt (nI k) wh, a, ia0 0) :=
  ⟨⟨by rw [up_n (by decide)]; exact h.2.2.1, fun z => absurd z (flt_ne hk hk2 hw), fun _ => up_s, fun q hq => by rw [up_n (by omega)]; exact h.2.2.2.2.1.2.2.2 q hq⟩, h.2.2.2.2.2 0 (by decide), fun j h0 h5 => h.2.2.2.2.2 j h5⟩
def bornF (tp : Nat → Int32) (n a : Nat) (w : Nat → Int32) : Int32 × Nat × (Nat → Int32) := nx (nmF tp n a 0 1799) w fun a b => nx (enF tp n a) w fun a _ => (0, a, bgX b w)
/-- a span moves up by one; is put -/
def mv3 (w : Nat → Int32) (k : Nat) : Nat → Int32 := upd (upd (upd w (14 + 3 * k) (w (11 + 3 * k))) (15 + 3 * k) (w (12 + 3 * k))) (16 + 3 * k) (w (13 + 3 * k))
def srvL (f : Int32) : Nat → (Nat → Int32) → (Nat → Int32) × Nat
  | 0, w => (w, 0)
  | k + 1, w => if w (11 + 3 * k) ≤ f then (w, k + 1) else srvL f k (mv3 w k)
def put3 (w : Nat → Int32) (k : Nat) (f t p : Int32) : Nat → Int32 := upd (upd (upd w (11 + 3 * k) f) (12 + 3 * k) t) (13 + 3 * k) p
def srvW (w : Nat → Int32) (f t p : Int32) : Nat → Int32 := upd (put3 (srvL f (cS w) w).1 (srvL f (cS w) w).2 f t p) 3 (put3 (srvL f (cS w) w).1 (srvL f (cS w) w).2 f t p 3 + 1)
def srvF (tp : Nat → Int32) (n a wh : Nat) (w : Nat → Int32) : Int32 × Nat × (Nat → Int32) := if w 3 = 8 then (flt 3 wh, a, w) else nx (nmF tp n a 0 1799) w fun a f => nx (nmF tp n a 0 1799) w fun a t => nx (nmF tp n a 0 1000000) w fun a p => nx (enF tp n a) w fun a _ => if t ≤ f then (flt 4 wh, a, w) else if f < w 0 then (flt 4 wh, a, w) else if 0 < svc w f t then (flt 4 wh, a, w) else if w 1 = -1 then (0, a, srvW w f t p) else if t ≤ w 1 then (0, a, srvW w f t p) else (flt 4 wh, a, w)
def wedW (w : Nat → Int32) (k : Nat) (b m : Int32) : Nat → Int32 := upd (upd (upd (upd (upd (upd (upd (upd w (35 + 8 * k) b) (36 + 8 * k) m) (37 + 8 * k) (-1)) (38 + 8 * k) 0) (39 + 8 * k) 0) (40 + 8 * k) 0) (41 + 8 * k) 0) (42 + 8 * k) (-1)
def wedX (w : Nat → Int32) (b m : Int32) : Nat → Int32 := upd (wedW w (cP w) b m) 4 (wedW w (cP w) b m 4 + 1)
def wedF (tp : Nat → Int32) (n a wh : Nat) (w : Nat → Int32) : Int32 × Nat × (Nat → Int32) := if w 4 = 4 then (flt 3 wh, a, w) else nx (nmF tp n a 0 1799) w fun a b => nx (nmF tp n a 0 1799) w fun a m => nx (enF tp n a) w fun a _ => if m < b then (flt 4 wh, a, w) else if m < w 0 then (flt 4 wh, a, w) else if cP w = 0 then (0, a, wedX w b m) else if w (37 + 8 * (cP w - 1)) = -1 then (flt 4 wh, a, w) else if w (37 + 8 * (cP w - 1)) ≤ m then (0, a, wedX w b m) else (flt 4 wh, a, w)
section MN
variable {mo : Nat} {iv iv0 : Nat → Int32} {ia ia0 : Nat → Nat → Int32} {la : Nat → Nat → Int64} {g : pz_H}
theorem m_stepN {n a k : Nat} {p lo hi : Int32} (h : Cur iv0 ia0 iv ia n a) (hp : p = nI k) (hk : k < 4) :
    (∃ iv1 ia1, fnX10_number (MH mo iv ia la g) mo p lo hi = some (1, MH mo iv1 ia1 la g) ∧ (nmF (ia0 4) n a lo hi).1 = 0 ∧ Cur iv0 ia0 iv1 ia1 n (nmF (ia0 4) n a lo hi).2.1 ∧ ia1 5 = upd (ia 5) k (nmF (ia0 4) n a lo hi).2.2) ∨
    (∃ iv1 ia1, fnX10_number (MH mo iv ia la g) mo p lo hi = some (0, MH mo iv1 ia1 la g) ∧ ¬ (nmF (ia0 4) n a lo hi).1 = 0 ∧ ∀ K, StR iv0 ia0 iv1 ia1 (nx (nmF (ia0 4) n a lo hi) (ia0 0) K)) := by
  obtain ⟨h14, h4, h16, han, hr, ho⟩ := h
  obtain ⟨iv1, t1, a1, a2, a3⟩ := m_number (mo := mo) (ia := ia) (la := la) (g := g) (lo := lo) (hi := hi) h14 h4 h16 han hp hk
  rw [ho 4 (by decide)] at a1 a2 a3
  by_cases c : (nmF (ia0 4) n a lo hi).1 = 0
  · left
    have hz : okI (nmF (ia0 4) n a lo hi).1 = 1 := by unfold okI; rw [if_pos c]
    rw [hz] at a1
    rw [c] at a2
    refine ⟨iv1, _, a1, c, ⟨by rw [a2.2.2.2 14 (by omega)]; exact h14, h4, a2.1, nmF_le han, hr.tr a2, fun j hj => by rw [up_n hj]; exact ho j hj⟩, by rw [up_s, a3 c]⟩
  · right
    have hz : okI (nmF (ia0 4) n a lo hi).1 = 0 := by unfold okI; rw [if_neg c]
    rw [hz] at a1
    refine ⟨iv1, _, a1, c, fun K => ?_⟩
    rw [nx_no c]
    exact ⟨hr.tr a2, by rw [up_n (by decide)]; exact ho 0 (by decide), fun j h0 h5 => by rw [up_n h5]; exact ho j h5⟩
theorem m_stepM {n a k : Nat} {p : Int32} (h : Cur iv0 ia0 iv ia n a) (hp : p = nI k) (hk : k < 4) :
    (∃ iv1 ia1, fnX10_month (MH mo iv ia la g) mo p = some (1, MH mo iv1 ia1 la g) ∧ (nmF (ia0 4) n a 0 1799).1 = 0 ∧ Cur iv0 ia0 iv1 ia1 n (nmF (ia0 4) n a 0 1799).2.1 ∧ ia1 5 = upd (ia 5) k (nmF (ia0 4) n a 0 1799).2.2) ∨
    (∃ iv1 ia1, fnX10_month (MH mo iv ia la g) mo p = some (0, MH mo iv1 ia1 la g) ∧ ¬ (nmF (ia0 4) n a 0 1799).1 = 0 ∧ ∀ K, StR iv0 ia0 iv1 ia1 (nx (nmF (ia0 4) n a 0 1799) (ia0 0) K)) := by
  unfold fnX10_month
  simp only [mh_is, mh_g0, mh_g4, mh_g6, mh_g12, mh_g14, mh_g15, mh_g16, mh_g17, mh_g18, mh_g19, mh_g20, mh_r1, mh_r2, mh_r3, mh_r5, mh_r7, mh_r8, mh_r9, mh_r10, mh_r11, mh_r13, mh_r21, mh_s0, mh_s4, mh_s6, mh_s12, mh_s14, mh_s15, mh_s16, mh_s17, mh_s18, mh_s19, mh_s20, mh_w0, mh_w1, mh_w2, mh_w3, mh_w4, mh_w5, mh_w6, mh_w7, mh_w8, mh_w9, mh_w10, bs]
  rcases m_stepN (mo := mo) (la := la) (g := g) (lo := 0) (hi := 1799) h hp hk with ⟨iv1, ia1, e, r⟩ | ⟨iv1, ia1, e, r⟩
  · left; exact ⟨iv1, ia1, by rw [e, bs, pb1, bs], r⟩
  · right; exact ⟨iv1, ia1, by rw [e, bs, pb0, bs], r⟩
theorem m_stepE {n a : Nat} (h : Cur iv0 ia0 iv ia n a) :
    (∃ iv1, fnX10_ends (MH mo iv ia la g) mo = some (1, MH mo iv1 ia la g) ∧ (enF (ia0 4) n a).1 = 0 ∧ Cur iv0 ia0 iv1 ia n (enF (ia0 4) n a).2.1) ∨
    (∃ iv1, fnX10_ends (MH mo iv ia la g) mo = some (0, MH mo iv1 ia la g) ∧ ¬ (enF (ia0 4) n a).1 = 0 ∧ ∀ K, StR iv0 ia0 iv1 ia (nx (enF (ia0 4) n a) (ia0 0) K)) := by
  obtain ⟨h14, h4, h16, han, hr, ho⟩ := h
  obtain ⟨iv1, a1, a2⟩ := m_ends (mo := mo) (ia := ia) (la := la) (g := g) h14 h4 h16 han
  rw [ho 4 (by decide)] at a1 a2
  by_cases c : (enF (ia0 4) n a).1 = 0
  · left
    have hz : okI (enF (ia0 4) n a).1 = 1 := by unfold okI; rw [if_pos c]
    rw [hz] at a1
    rw [c] at a2
    exact ⟨iv1, a1, c, by rw [a2.2.2.2 14 (by omega)]; exact h14, h4, a2.1, enF_le han, hr.tr a2, ho⟩
  · right
    have hz : okI (enF (ia0 4) n a).1 = 0 := by unfold okI; rw [if_neg c]
    rw [hz] at a1
    refine ⟨iv1, a1, c, fun K => ?_⟩
    rw [nx_no c]
    exact ⟨hr.tr a2, ho 0 (by decide), fun j h0 h5 => ho j h5⟩
theorem ok_no {r : Int32 × Nat × Int32} {w : Nat → Int32} {K : Nat → Int32 → Int32 × Nat × (Nat → Int32)} (h : ¬ r.1 = 0) : okI (nx r w K).1 = 0 := by rw [nx_no h]; exact okI_0.mpr h
theorem m_born {n a : Nat} (u0 : Cur iv ia iv ia n a) : ∃ iv' ia', fnX10_readBorn (MH mo iv ia la g) mo = some (okI (bornF (ia 4) n a (ia 0)).1, MH mo iv' ia' la g) ∧ StR iv ia iv' ia' (bornF (ia 4) n a (ia 0)) := by
  unfold fnX10_readBorn fX10_readBorn_15 bornF
  simp only [mh_is, bs, pb0, pb1]
  rcases (m_stepM (mo := mo) (la := la) (g := g) (p := 0) (k := 0) u0 rfl (by decide)).symm with ⟨iv1, ia1, e1, c1, r1⟩ | ⟨iv1, ia1, e1, c1, u1, t1⟩
  · rw [ok_no c1, e1, bs, if_pos rfl]; exact ⟨iv1, ia1, rfl, r1 _⟩
  rw [e1, bs, if_neg one_0, nx_ok c1]
  rcases (m_stepE (mo := mo) (la := la) (g := g) u1).symm with ⟨iv2, e2, c2, r2⟩ | ⟨iv2, e2, c2, u2⟩
  · rw [ok_no c2, e2, bs, if_pos rfl]; exact ⟨iv2, ia1, rfl, r2 _⟩
  rw [e2, bs, if_neg one_0, nx_ok c2]
  rw [mh_r21, bs, mh_i5 (i := (0 : Int32)) (k := 0) rfl (by decide), bs, m_begins, bs, t1, upd_s, u2.2.2.2.2.2 0 (by decide)]
  exact ⟨iv2, _, rfl, u2.ok⟩
theorem m_srv148 {K : pz_H → Nat → Int32 → Int32 → Option (Int32 × pz_H)} {f : Int32} {k : Nat} (hk : k < 7) (N : Nat) (hN : 4 ≤ N) : fX10_readServe_148 K N (MH mo iv ia la g) mo f (nI (k + 1)) 0 = K (MH mo iv (va_up ia 0 (mv3 (ia 0) k)) la g) mo f (nI k) := by
  obtain ⟨N, rfl⟩ : ∃ M, N = M + 4 := ⟨N - 4, by omega⟩
  have e1 : nI (k + 1) - 1 = nI k := by rw [← nI_1]; exact Int32.add_sub_cancel _ _
  have e2 : nI (k + 1) + (-1) = nI k := by rw [← nI_1, Int32.add_assoc]; exact Int32.add_zero _
  have ix : ∀ j : Nat, (11 : Int32) + (3 : Int32) * nI (k + 1) + nI j = nI (14 + 3 * k + j) := by
    intro j
    rw [show (11 : Int32) = nI 11 from rfl, show (3 : Int32) = nI 3 from rfl, pk_mul, nI_add, nI_add, show 11 + 3 * (k + 1) + j = 14 + 3 * k + j by omega]
  have ix0 : (11 : Int32) + (3 : Int32) * nI (k + 1) + 0 = nI (14 + 3 * k) := ix 0
  have ix1 : (11 : Int32) + (3 : Int32) * nI (k + 1) + 1 = nI (15 + 3 * k) := by rw [show 15 + 3 * k = 14 + 3 * k + 1 by omega]; exact ix 1
  have ix2 : (11 : Int32) + (3 : Int32) * nI (k + 1) + 2 = nI (16 + 3 * k) := by rw [show 16 + 3 * k = 14 + 3 * k + 2 by omega]; exact ix 2
  show fX10_readServe_148b _ _ _ _ _ _ _ = _
  unfold fX10_readServe_148b
  rw [if_neg (by decide), mh_r1, bs, e1, m_sp0 (p := nI k) rfl (by omega), bs, mh_t0 ix0 (by omega), bs]
  show fX10_readServe_148b _ _ _ _ _ (nI (k + 1)) 1 = _
  unfold fX10_readServe_148b
  rw [if_neg (by decide), mh_r1, bs, e1, m_sp1 (p := nI k) rfl (by omega), bs, mh_t0 ix1 (by omega), bs, up_s, up_up]
  show fX10_readServe_148b _ _ _ _ _ (nI (k + 1)) 2 = _
  unfold fX10_readServe_148b
  rw [if_neg (by decide), mh_r1, bs, e1, m_sp2 (p := nI k) rfl (by omega), bs, mh_t0 ix2 (by omega), bs, up_s, up_up]
  show fX10_readServe_148b _ _ _ _ _ (nI (k + 1)) 3 = _
  unfold fX10_readServe_148b
  rw [if_pos (by decide), e2, upd_n (by omega), upd_n (by omega), upd_n (by omega)]
  rfl
theorem m_srv194 {k : Nat} (hk : k < 8) (N : Nat) (hN : 4 ≤ N) : fX10_readServe_194 N (MH mo iv ia la g) mo (nI k) 0 = some (1, MH mo iv (va_up ia 0 (upd (put3 (ia 0) k (ia 5 0) (ia 5 1) (ia 5 2)) 3 (put3 (ia 0) k (ia 5 0) (ia 5 1) (ia 5 2) 3 + 1))) la g) := by
  obtain ⟨N, rfl⟩ : ∃ M, N = M + 4 := ⟨N - 4, by omega⟩
  have ix : ∀ j : Nat, (11 : Int32) + (3 : Int32) * nI k + nI j = nI (11 + 3 * k + j) := by
    intro j
    rw [show (11 : Int32) = nI 11 from rfl, show (3 : Int32) = nI 3 from rfl, pk_mul, nI_add, nI_add]
  have ix0 : (11 : Int32) + (3 : Int32) * nI k + 0 = nI (11 + 3 * k) := ix 0
  have ix1 : (11 : Int32) + (3 : Int32) * nI k + 1 = nI (12 + 3 * k) := by rw [show 12 + 3 * k = 11 + 3 * k + 1 by omega]; exact ix 1
  have ix2 : (11 : Int32) + (3 : Int32) * nI k + 2 = nI (13 + 3 * k) := by rw [show 13 + 3 * k = 11 + 3 * k + 2 by omega]; exact ix 2
  show fX10_readServe_194b _ _ _ _ _ = _
  unfold fX10_readServe_194b
  rw [if_neg (by decide), mh_r1, bs, mh_r21, bs, mh_i5 (i := (0 : Int32)) (k := 0) rfl (by decide), bs, mh_t0 ix0 (by omega), bs]
  show fX10_readServe_194b _ _ _ (nI k) 1 = _
  unfold fX10_readServe_194b
  rw [if_neg (by decide), mh_r1, bs, mh_r21, bs, mh_i5 (i := (1 : Int32)) (k := 1) rfl (by decide), bs, mh_t0 ix1 (by omega), bs, up_s, up_up, up_n (by decide)]
  show fX10_readServe_194b _ _ _ (nI k) 2 = _
  unfold fX10_readServe_194b
  rw [if_neg (by decide), mh_r1, bs, mh_r21, bs, mh_i5 (i := (2 : Int32)) (k := 2) rfl (by decide), bs, mh_t0 ix2 (by omega), bs, up_s, up_up, up_n (by decide)]
  show fX10_readServe_194b _ _ _ (nI k) 3 = _
  unfold fX10_readServe_194b
  rw [if_pos (by decide), mh_r1, bs, mh_w3, bs, mh_t0 (i := (3 : Int32)) (k := 3) rfl (by decide), bs, up_s, up_up, pb1, bs]
  rfl
theorem m_srv127 {f t p : Int32} (h0 : ia 5 0 = f) (h1 : ia 5 1 = t) (h2 : ia 5 2 = p) : ∀ (N k : Nat) (c : Nat → Int32), k < 8 → k < N → fX10_readServe_127 N (MH mo iv (va_up ia 0 c) la g) mo f (nI k) = some (1, MH mo iv (va_up ia 0 (upd (put3 (srvL f k c).1 (srvL f k c).2 f t p) 3 (put3 (srvL f k c).1 (srvL f k c).2 f t p 3 + 1))) la g) := by
  intro N
  induction N with
  | zero => intro k _ _ h; omega
  | succ N ih =>
    intro k c hk hN
    show fX10_readServe_127b _ _ _ _ _ = _
    unfold fX10_readServe_127b fX10_readServe_191
    have fin : ∀ k, k < 8 → fX10_readServe_194 pz_F (MH mo iv (va_up ia 0 c) la g) mo (nI k) 0 = some (1, MH mo iv (va_up ia 0 (upd (put3 c k f t p) 3 (put3 c k f t p 3 + 1))) la g) := by
      intro k hk
      rw [m_srv194 hk pz_F (by unfold pz_F; omega), up_s, up_up, up_n (by decide), h0, h1, h2]
    cases k with
    | zero =>
      rw [if_pos (by decide), fin 0 (by omega)]; rfl
    | succ k =>
      have e1 : nI (k + 1) - 1 = nI k := by rw [← nI_1]; exact Int32.add_sub_cancel _ _
      rw [if_neg (by rw [show (0 : Int32) = nI 0 from rfl, nI_leI (by omega) (by omega)]; omega), e1, m_sp0 (p := nI k) rfl (by omega), bs, up_s]
      unfold srvL
      by_cases d : c (11 + 3 * k) ≤ f
      · rw [if_pos d, if_pos d, fin (k + 1) hk]
      · rw [if_neg d, if_neg d, m_srv148 (by omega) pz_F (by unfold pz_F; omega), up_s, up_up]
        exact ih k _ (by omega) (by omega)
theorem m_serve {n a wh : Nat} {q : Int32} (hv : Vld (ia 0)) (hq : q = nI wh) (hw : wh ≤ 400) (u0 : Cur iv ia iv ia n a) : ∃ iv' ia', fnX10_readServe (MH mo iv ia la g) mo q = some (okI (srvF (ia 4) n a wh (ia 0)).1, MH mo iv' ia' la g) ∧ StR iv ia iv' ia' (srvF (ia 4) n a wh (ia 0)) := by
  subst hq
  unfold fnX10_readServe fX10_readServe_52 fX10_readServe_112 fX10_readServe_119 srvF
  have n3 : ¬ flt 3 wh = 0 := flt_ne (k := 3) (by omega) (by omega) hw
  have n4 : ¬ flt 4 wh = 0 := flt_ne (k := 4) (by omega) (by omega) hw
  simp only [mh_is, mh_r1, mh_w3, bs, pb0, pb1, m_fails]
  by_cases c0 : ia 0 3 = 8
  · rw [if_pos c0, if_pos c0]
    exact ⟨va_up iv 17 (flt 3 wh), ia, by rw [okI_0.mpr n3]; rfl, u0.no (k := 3) (by omega) (by omega) hw⟩
  rw [if_neg c0, if_neg c0]
  rcases (m_stepM (mo := mo) (la := la) (g := g) (p := 0) (k := 0) u0 rfl (by decide)).symm with ⟨iv1, ia1, e1, c1, r1⟩ | ⟨iv1, ia1, e1, c1, u1, t1⟩
  · rw [ok_no c1, e1, bs, if_pos rfl]; exact ⟨iv1, ia1, rfl, r1 _⟩
  rw [e1, bs, if_neg one_0, nx_ok c1]
  rcases (m_stepM (mo := mo) (la := la) (g := g) (p := 1) (k := 1) u1 rfl (by decide)).symm with ⟨iv2, ia2, e2, c2, r2⟩ | ⟨iv2, ia2, e2, c2, u2, t2⟩
  · rw [ok_no c2, e2, bs, if_pos rfl]; exact ⟨iv2, ia2, rfl, r2 _⟩
  rw [e2, bs, if_neg one_0, nx_ok c2]
  rcases (m_stepN (mo := mo) (la := la) (g := g) (p := 2) (k := 2) (lo := 0) (hi := 1000000) u2 rfl (by decide)).symm with ⟨iv3, ia3, e3, c3, r3⟩ | ⟨iv3, ia3, e3, c3, u3, t3⟩
  · rw [ok_no c3, e3, bs, if_pos rfl]; exact ⟨iv3, ia3, rfl, r3 _⟩
  rw [e3, bs, if_neg one_0, nx_ok c3]
  rcases (m_stepE (mo := mo) (la := la) (g := g) u3).symm with ⟨iv4, e4, c4, r4⟩ | ⟨iv4, e4, c4, u4⟩
  · rw [ok_no c4, e4, bs, if_pos rfl]; exact ⟨iv4, ia3, rfl, r4 _⟩
  rw [e4, bs, if_neg one_0, nx_ok c4]
  have v0 : ia3 5 0 = (nmF (ia 4) n a 0 1799).2.2 := by rw [t3, upd_n (by decide), t2, upd_n (by decide), t1, upd_s]
  have v1 : ia3 5 1 = (nmF (ia 4) n (nmF (ia 4) n a 0 1799).2.1 0 1799).2.2 := by rw [t3, upd_n (by decide), t2, upd_s]
  have v2 : ia3 5 2 = (nmF (ia 4) n (nmF (ia 4) n (nmF (ia 4) n a 0 1799).2.1 0 1799).2.1 0 1000000).2.2 := by rw [t3, upd_s]
  have w0 : ia3 0 = ia 0 := u4.2.2.2.2.2 0 (by decide)
  have hc : Cnt (ia3 0) := by rw [w0]; exact hv.c
  revert v0 v1 v2
  generalize (nmF (ia 4) n a 0 1799).2.2 = f
  generalize (nmF (ia 4) n (nmF (ia 4) n a 0 1799).2.1 0 1799).2.2 = t
  generalize (nmF (ia 4) n (nmF (ia 4) n (nmF (ia 4) n a 0 1799).2.1 0 1799).2.1 0 1000000).2.2 = p
  intro v0 v1 v2
  have fin4 : ∃ iv' ia', some ((0 : Int32), MH mo (va_up iv4 17 (4 + 8 * nI wh)) ia3 la g) = some (okI (flt 4 wh), MH mo iv' ia' la g) ∧ StR iv ia iv' ia' (flt 4 wh, (enF (ia 4) n (nmF (ia 4) n (nmF (ia 4) n (nmF (ia 4) n a 0 1799).2.1 0 1799).2.1 0 1000000).2.1).2.1, ia 0) :=
    ⟨va_up iv4 17 (flt 4 wh), ia3, by rw [okI_0.mpr n4]; rfl, u4.no (k := 4) (by omega) (by omega) hw⟩
  have hS := hv.1.1
  have h8 : cS (ia 0) < 8 := by
    rcases Nat.lt_or_ge (cS (ia 0)) 8 with z | z
    · exact z
    · exfalso; apply c0; rw [hS.1, show cS (ia 0) = 8 by omega]; rfl
  have fin0 : ∃ iv' ia', fX10_readServe_127 pz_F (MH mo iv4 ia3 la g) mo f (ia 0 3) = some (okI 0, MH mo iv' ia' la g) ∧ StR iv ia iv' ia' (0, (enF (ia 4) n (nmF (ia 4) n (nmF (ia 4) n (nmF (ia 4) n a 0 1799).2.1 0 1799).2.1 0 1000000).2.1).2.1, srvW (ia 0) f t p) := by
    have h := m_srv127 (mo := mo) (iv := iv4) (ia := ia3) (la := la) (g := g) v0 v1 v2 pz_F (cS (ia 0)) (ia3 0) h8 (by unfold pz_F; omega)
    rw [up_id, w0, ← hS.1] at h
    exact ⟨iv4, _, h, u4.ok⟩
  simp only [mh_r21, bs, mh_i5 (i := (0 : Int32)) (k := 0) rfl (by decide), mh_i5 (i := (1 : Int32)) (k := 1) rfl (by decide), mh_r1, mh_w0, mh_w1, mh_w3, m_serviceIn hc, v0, v1, w0, m_fails, pb0]
  by_cases d1 : t ≤ f
  · rw [if_pos d1, if_pos d1]; exact fin4
  rw [if_neg d1, if_neg d1]
  by_cases d2 : f < ia 0 0
  · rw [if_pos d2, if_pos d2]; exact fin4
  rw [if_neg d2, if_neg d2]
  by_cases d3 : 0 < svc (ia 0) f t
  · rw [if_pos d3, if_pos d3]; exact fin4
  rw [if_neg d3, if_neg d3]
  by_cases d4 : ia 0 1 = -1
  · rw [if_pos d4, if_pos d4]; exact fin0
  rw [if_neg d4, if_neg d4]
  by_cases d5 : t ≤ ia 0 1
  · rw [if_pos d5, if_pos d5]; exact fin0
  rw [if_neg d5, if_neg d5]; exact fin4
end MN
