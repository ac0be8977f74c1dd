/-! ===== the reference's text: statements, the rest ===== -/
def prtW (w : Nat → Int32) (k : Nat) (m p h s : Int32) : Nat → Int32 := upd (upd (upd (upd w (37 + 8 * k) m) (38 + 8 * k) p) (39 + 8 * k) h) (40 + 8 * k) s
/-- whether the word is shared, apart -/
def howF (tp : Nat → Int32) (n a : Nat) : Int32 × Nat × Int32 := if inI (hrV tp n (nxA tp n a)) 97 122 = 0 then (flt 1 (nxA tp n a), nxA tp n a, 0) else if wdV tp n (nxA tp n a) = 276913705 then (0, wdE tp n (nxA tp n a), 0) else if wdV tp n (nxA tp n a) = 847604 then (0, wdE tp n (nxA tp n a), 1) else (flt 1 (nxA tp n a), wdE tp n (nxA tp n a), 0)
def prtF (tp : Nat → Int32) (n a wh : Nat) (w : Nat → Int32) : Int32 × Nat × (Nat → Int32) := nx (nmF tp n a 0 1799) w fun a m => nx (nmF tp n a 0 1000) w fun a p => nx (howF tp n a) w fun a h => nx (nmF tp n a 0 1000) w fun a s => nx (enF tp n a) w fun a _ => if cP w = 0 then (flt 4 wh, a, w) else if w (37 + 8 * (cP w - 1)) = -1 then (if w (36 + 8 * (cP w - 1)) < m then (0, a, prtW w (cP w - 1) m p h s) else (flt 4 wh, a, w)) else (flt 4 wh, a, w)
/-- whether one year that is told lets LIVES fall -/
def lfC (yr rv y v : Int32) : Int32 := if y ≤ yr then (if yr ≤ y then 1 else if v < rv then 0 else 1) else if rv < v then 0 else (if yr ≤ y then 1 else if v < rv then 0 else 1)
def lfS (w : Nat → Int32) (y v : Int32) : Nat → Nat × Int32
  | 0 => (cY w, 1)
  | i + 1 => (if w (67 + 2 * i) = y then i else (lfS w y v i).1, if (lfS w y v i).2 = 0 then 0 else lfC (w (67 + 2 * i)) (w (68 + 2 * i)) y v)
def livW (w : Nat → Int32) (s : Nat) (y v : Int32) : Nat → Int32 := upd (upd (upd w 5 (w 5 + if s = cY w then 1 else 0)) (67 + 2 * s) y) (68 + 2 * s) v
def livF (tp : Nat → Int32) (n a wh : Nat) (w : Nat → Int32) : Int32 × Nat × (Nat → Int32) := nx (nmF tp n a 1 119) w fun a y => nx (nmF tp n a 0 100000) w fun a v => nx (enF tp n a) w fun a _ => if (lfS w y v (cY w)).2 = 0 then (flt 4 wh, a, w) else if (lfS w y v (cY w)).1 = 10 then (flt 4 wh, a, w) else (0, a, livW w (lfS w y v (cY w)).1 y v)
def ofsF (tp : Nat → Int32) (n a wh : Nat) (w : Nat → Int32) (what : Int32) : Int32 × Nat × (Nat → Int32) := nx (nmF tp n a 0 (w 4 - 1)) w fun a k => nx (nmF tp n a 0 1799) w fun a v => nx (enF tp n a) w fun a _ => if plc w what k v = -1 then (flt 4 wh, a, w) else (0, a, upd w (plc w what k v).toNatClampNeg v)
def oneF (tp : Nat → Int32) (n a wh : Nat) (w : Nat → Int32) (what hi : Int32) : Int32 × Nat × (Nat → Int32) := nx (nmF tp n a 0 hi) w fun a v => nx (enF tp n a) w fun a _ => if plc w what 0 v = -1 then (flt 4 wh, a, w) else (0, a, upd w (plc w what 0 v).toNatClampNeg v)
def oneH (what : Int32) : Int32 := if 10 ≤ what then mostT (what - 10) else 1799
def trmV (v : Int64) : Int32 := if v = 11817 then 10 else if v = 209220123 then 11 else if v = 2690359 then 12 else if v = 70309 then 13 else if v = 99857059490 then 14 else -1
def stmB (tp : Nat → Int32) (n b : Nat) (w : Nat → Int32) (v : Int64) (e : Nat) : Int32 × Nat × (Nat → Int32) :=
  if v = 50801 then bornF tp n e w else if v = 10209515 then srvF tp n e b w else if v = 16906 then wedF tp n e b w else if v = 316163 then prtF tp n e b w else if v = 6570631 then livF tp n e b w else if v = 1831504 then ofsF tp n e b w 4 else if v = 247664 then ofsF tp n e b w 5 else if v = 85447 then oneF tp n e b w 6 1799 else if v = 261338243 then oneF tp n e b w 0 1799 else if trmV v = -1 then (flt 1 b, e, w) else oneF tp n e b w (trmV v) (oneH (trmV v))
def stmF (tp : Nat → Int32) (n a : Nat) (w : Nat → Int32) : Int32 × Nat × (Nat → Int32) := if inI (hrV tp n (nxA tp n a)) 97 122 = 0 then (flt 1 (nxA tp n a), nxA tp n a, w) else stmB tp n (nxA tp n a) w (wdV tp n (nxA tp n a)) (wdE tp n (nxA tp n a))
theorem nI_t {x : Int32} {t : Nat} (h : x = nI t) (ht : t < 2147483648) : x.toNatClampNeg = t := by
  have h1 : x.toInt = t := by rw [h, nI_toInt ht]
  obtain ⟨a, b⟩ := nI_clampI (x := x) (by omega)
  omega
theorem wdE_le {tp : Nat → Int32} {n a : Nat} (h : a ≤ n) : wdE tp n a ≤ n := by
  have := ltR_le tp (n - a) a
  unfold wdE; omega
section MO
variable {mo : Nat} {iv iv0 : Nat → Int32} {ia ia0 : Nat → Nat → Int32} {la : Nat → Nat → Int64} {g : pz_H}
theorem m_placeT {p k v : Int32} {w : Nat → Int32} (hv : Vld w) (h : ¬ plc w p k v = -1) : plc w p k v = nI (plc w p k v).toNatClampNeg ∧ (plc w p k v).toNatClampNeg < 67 ∧ plT w p k v (plc w p k v).toNatClampNeg := by
  obtain ⟨t, e, h2, h3⟩ := plc_of hv h
  have := nI_t e (by omega)
  rw [this]; exact ⟨e, h2, h3⟩
theorem m_wed107 {k : Nat} {b m : Int32} (hk : k < 4) (h0 : ia 5 0 = b) (h1 : ia 5 1 = m) (N : Nat) (hN : 9 ≤ N) : fX10_readWed_107 N (MH mo iv ia la g) mo (nI k) 0 = some (1, MH mo iv (va_up ia 0 (upd (wedW (ia 0) k b m) 4 (wedW (ia 0) k b m 4 + 1))) la g) := by
  obtain ⟨N, rfl⟩ : ∃ M, N = M + 9 := ⟨N - 9, by omega⟩
  have ix : ∀ j : Nat, (35 : Int32) + (8 : Int32) * nI k + nI j = nI (35 + 8 * k + j) := by
    intro j
    rw [show (35 : Int32) = nI 35 from rfl, show (8 : Int32) = nI 8 from rfl, pk_mul, nI_add, nI_add]
  have ix0 : (35 : Int32) + (8 : Int32) * nI k + 0 = nI (35 + 8 * k) := ix 0
  have ix1 : (35 : Int32) + (8 : Int32) * nI k + 1 = nI (36 + 8 * k) := by rw [show 36 + 8 * k = 35 + 8 * k + 1 by omega]; exact ix 1
  have ix2 : (35 : Int32) + (8 : Int32) * nI k + 2 = nI (37 + 8 * k) := by rw [show 37 + 8 * k = 35 + 8 * k + 2 by omega]; exact ix 2
  have ix3 : (35 : Int32) + (8 : Int32) * nI k + 3 = nI (38 + 8 * k) := by rw [show 38 + 8 * k = 35 + 8 * k + 3 by omega]; exact ix 3
  have ix4 : (35 : Int32) + (8 : Int32) * nI k + 4 = nI (39 + 8 * k) := by rw [show 39 + 8 * k = 35 + 8 * k + 4 by omega]; exact ix 4
  have ix5 : (35 : Int32) + (8 : Int32) * nI k + 5 = nI (40 + 8 * k) := by rw [show 40 + 8 * k = 35 + 8 * k + 5 by omega]; exact ix 5
  have ix6 : (35 : Int32) + (8 : Int32) * nI k + 6 = nI (41 + 8 * k) := by rw [show 41 + 8 * k = 35 + 8 * k + 6 by omega]; exact ix 6
  have ix7 : (35 : Int32) + (8 : Int32) * nI k + 7 = nI (42 + 8 * k) := by rw [show 42 + 8 * k = 35 + 8 * k + 7 by omega]; exact ix 7
  show fX10_readWed_107b _ _ _ (nI k) 0 = _
  unfold fX10_readWed_107b fX10_readWed_157 fX10_readWed_162
  rw [if_neg (by decide), mh_r1, bs, if_neg (by decide), mh_r21, bs, mh_i5 (i := (0 : Int32)) (k := 0) rfl (by decide), bs, mh_t0 ix0 (by omega), bs]
  show fX10_readWed_107b _ _ _ (nI k) 1 = _
  unfold fX10_readWed_107b fX10_readWed_157 fX10_readWed_162
  rw [if_neg (by decide), mh_r1, bs, if_neg (by decide), mh_r21, bs, mh_i5 (i := (1 : Int32)) (k := 1) rfl (by decide), bs, mh_t0 ix1 (by omega), bs, up_s, up_up]
  rw [up_n (show 5 ≠ 0 by decide)]
  show fX10_readWed_107b _ _ _ (nI k) 2 = _
  unfold fX10_readWed_107b fX10_readWed_157 fX10_readWed_162
  rw [if_neg (by decide), mh_r1, bs, if_pos (by decide), if_pos (by decide), mh_t0 ix2 (by omega), bs, up_s, up_up]
  show fX10_readWed_107b _ _ _ (nI k) 3 = _
  unfold fX10_readWed_107b fX10_readWed_157 fX10_readWed_162
  rw [if_neg (by decide), mh_r1, bs, if_pos (by decide), if_neg (by decide), if_neg (by decide), mh_t0 ix3 (by omega), bs, up_s, up_up]
  show fX10_readWed_107b _ _ _ (nI k) 4 = _
  unfold fX10_readWed_107b fX10_readWed_157 fX10_readWed_162
  rw [if_neg (by decide), mh_r1, bs, if_pos (by decide), if_neg (by decide), if_neg (by decide), mh_t0 ix4 (by omega), bs, up_s, up_up]
  show fX10_readWed_107b _ _ _ (nI k) 5 = _
  unfold fX10_readWed_107b fX10_readWed_157 fX10_readWed_162
  rw [if_neg (by decide), mh_r1, bs, if_pos (by decide), if_neg (by decide), if_neg (by decide), mh_t0 ix5 (by omega), bs, up_s, up_up]
  show fX10_readWed_107b _ _ _ (nI k) 6 = _
  unfold fX10_readWed_107b fX10_readWed_157 fX10_readWed_162
  rw [if_neg (by decide), mh_r1, bs, if_pos (by decide), if_neg (by decide), if_neg (by decide), mh_t0 ix6 (by omega), bs, up_s, up_up]
  show fX10_readWed_107b _ _ _ (nI k) 7 = _
  unfold fX10_readWed_107b fX10_readWed_157 fX10_readWed_162
  rw [if_neg (by decide), mh_r1, bs, if_pos (by decide), if_neg (by decide), if_pos (by decide), mh_t0 ix7 (by omega), bs, up_s, up_up]
  show fX10_readWed_107b _ _ _ (nI k) 8 = _
  unfold fX10_readWed_107b
  rw [if_pos (by decide), mh_r1, bs, mh_w4, bs, mh_t0 (i := (4 : Int32)) (k := 4) rfl (by decide), bs, up_s, up_up, pb1, bs, h0, h1]
  rfl
theorem pred_nI {k : Nat} (h : 0 < k) : nI k - 1 = nI (k - 1) := by
  have : k = (k - 1) + 1 := by omega
  conv => lhs; rw [this, ← nI_1]
  exact Int32.add_sub_cancel _ _
theorem m_wed {n a wh : Nat} {q : Int32} (hv : Vld (ia 0)) (hq : q = nI wh) (hw : wh ≤ 400) (u0 : Cur iv ia iv ia n a) : ∃ iv' ia', fnX10_readWed (MH mo iv ia la g) mo q = some (okI (wedF (ia 4) n a wh (ia 0)).1, MH mo iv' ia' la g) ∧ StR iv ia iv' ia' (wedF (ia 4) n a wh (ia 0)) := by
  subst hq
  unfold fnX10_readWed fX10_readWed_42 fX10_readWed_97 fX10_readWed_104 wedF
  have n3 : ¬ flt 3 wh = 0 := flt_ne (k := 3) (by omega) (by omega) hw
  have n4 : ¬ flt 4 wh = 0 := flt_ne (k := 4) (by omega) (by omega) hw
  simp only [mh_is, mh_r1, mh_w4, bs, pb0, pb1, m_fails]
  by_cases c0 : ia 0 4 = 4
  · rw [if_pos c0, if_pos c0]
    exact ⟨va_up iv 17 (flt 3 wh), ia, by rw [okI_0.mpr n3]; rfl, u0.no (k := 3) (by omega) (by omega) hw⟩
  rw [if_neg c0, if_neg c0]
  rcases (m_stepM (mo := mo) (la := la) (g := g) (p := 0) (k := 0) u0 rfl (by decide)).symm with ⟨iv1, ia1, e1, c1, r1⟩ | ⟨iv1, ia1, e1, c1, u1, t1⟩
  · rw [ok_no c1, e1, bs, if_pos rfl]; exact ⟨iv1, ia1, rfl, r1 _⟩
  rw [e1, bs, if_neg one_0, nx_ok c1]
  rcases (m_stepM (mo := mo) (la := la) (g := g) (p := 1) (k := 1) u1 rfl (by decide)).symm with ⟨iv2, ia2, e2, c2, r2⟩ | ⟨iv2, ia2, e2, c2, u2, t2⟩
  · rw [ok_no c2, e2, bs, if_pos rfl]; exact ⟨iv2, ia2, rfl, r2 _⟩
  rw [e2, bs, if_neg one_0, nx_ok c2]
  rcases (m_stepE (mo := mo) (la := la) (g := g) u2).symm with ⟨iv3, e3, c3, r3⟩ | ⟨iv3, e3, c3, u3⟩
  · rw [ok_no c3, e3, bs, if_pos rfl]; exact ⟨iv3, ia2, rfl, r3 _⟩
  rw [e3, bs, if_neg one_0, nx_ok c3]
  have v0 : ia2 5 0 = (nmF (ia 4) n a 0 1799).2.2 := by rw [t2, upd_n (by decide), t1, upd_s]
  have v1 : ia2 5 1 = (nmF (ia 4) n (nmF (ia 4) n a 0 1799).2.1 0 1799).2.2 := by rw [t2, upd_s]
  have w0 : ia2 0 = ia 0 := u3.2.2.2.2.2 0 (by decide)
  revert v0 v1
  generalize (nmF (ia 4) n a 0 1799).2.2 = b
  generalize (nmF (ia 4) n (nmF (ia 4) n a 0 1799).2.1 0 1799).2.2 = m
  intro v0 v1
  have fin4 : ∃ iv' ia', some ((0 : Int32), MH mo (va_up iv3 17 (4 + 8 * nI wh)) ia2 la g) = some (okI (flt 4 wh), MH mo iv' ia' la g) ∧ StR iv ia iv' ia' (flt 4 wh, (enF (ia 4) n (nmF (ia 4) n (nmF (ia 4) n a 0 1799).2.1 0 1799).2.1).2.1, ia 0) :=
    ⟨va_up iv3 17 (flt 4 wh), ia2, by rw [okI_0.mpr n4]; rfl, u3.no (k := 4) (by omega) (by omega) hw⟩
  have hP := hv.1.2.1
  have h8 : cP (ia 0) < 4 := by
    rcases Nat.lt_or_ge (cP (ia 0)) 4 with z | z
    · exact z
    · exfalso; apply c0; rw [hP.1, show cP (ia 0) = 4 by omega]; rfl
  have fin0 : ∃ iv' ia', fX10_readWed_107 pz_F (MH mo iv3 ia2 la g) mo (nI (cP (ia 0))) 0 = some (okI 0, MH mo iv' ia' la g) ∧ StR iv ia iv' ia' (0, (enF (ia 4) n (nmF (ia 4) n (nmF (ia 4) n a 0 1799).2.1 0 1799).2.1).2.1, wedX (ia 0) b m) := by
    have h := m_wed107 (mo := mo) (iv := iv3) (ia := ia2) (la := la) (g := g) h8 v0 v1 pz_F (by unfold pz_F; omega)
    rw [w0] at h
    exact ⟨iv3, _, h, u3.ok⟩
  simp only [mh_r21, bs, mh_i5 (i := (0 : Int32)) (k := 0) rfl (by decide), mh_i5 (i := (1 : Int32)) (k := 1) rfl (by decide), mh_r1, mh_w0, v0, v1, w0, m_fails, pb0]
  rw [hP.1]
  by_cases d1 : m < b
  · rw [if_pos d1, if_pos d1]; exact fin4
  rw [if_neg d1, if_neg d1]
  by_cases d2 : m < ia 0 0
  · rw [if_pos d2, if_pos d2]; exact fin4
  rw [if_neg d2, if_neg d2]
  by_cases d3 : cP (ia 0) = 0
  · rw [if_pos d3, if_pos (by rw [d3]; decide)]; exact fin0
  rw [if_neg d3, if_neg (by rw [show (0 : Int32) = nI 0 from rfl, nI_leI (by omega) (by omega)]; omega)]
  simp only [pred_nI (show 0 < cP (ia 0) by omega), m_isParted (p := nI (cP (ia 0) - 1)) rfl (show cP (ia 0) - 1 < 4 by omega), m_its2 (p := nI (cP (ia 0) - 1)) rfl (show cP (ia 0) - 1 < 4 by omega), bs, w0]
  by_cases d4 : ia 0 (37 + 8 * (cP (ia 0) - 1)) = -1
  · simp only [d4, ↓reduceIte]; exact fin4
  simp only [d4, ↓reduceIte, one_0]
  by_cases d5 : ia 0 (37 + 8 * (cP (ia 0) - 1)) ≤ m
  · rw [if_pos d5, if_pos d5]; exact fin0
  rw [if_neg d5, if_neg d5]; exact fin4
theorem m_ofs {n a wh : Nat} {q what : Int32} (hv : Vld (ia 0)) (hq : q = nI wh) (hw : wh ≤ 400) (u0 : Cur iv ia iv ia n a) : ∃ iv' ia', fnX10_readOfSpouse (MH mo iv ia la g) mo q what = some (okI (ofsF (ia 4) n a wh (ia 0) what).1, MH mo iv' ia' la g) ∧ StR iv ia iv' ia' (ofsF (ia 4) n a wh (ia 0) what) := by
  subst hq
  unfold fnX10_readOfSpouse fX10_readOfSpouse_32 ofsF
  have n4 : ¬ flt 4 wh = 0 := flt_ne (k := 4) (by omega) (by omega) hw
  simp only [mh_is, mh_r1, mh_w4, bs, pb0, pb1, m_fails]
  rcases (m_stepN (mo := mo) (la := la) (g := g) (p := 0) (k := 0) (lo := 0) (hi := ia 0 4 - 1) u0 rfl (by decide)).symm with ⟨iv1, ia1, e1, c1, r1⟩ | ⟨iv1, ia1, e1, c1, u1, t1⟩
  · rw [ok_no c1, e1, bs, if_pos rfl]; exact ⟨iv1, ia1, rfl, r1 _⟩
  rw [e1, bs, if_neg one_0, nx_ok c1]
  rcases (m_stepM (mo := mo) (la := la) (g := g) (p := 1) (k := 1) u1 rfl (by decide)).symm with ⟨iv2, ia2, e2, c2, r2⟩ | ⟨iv2, ia2, e2, c2, u2, t2⟩
  · rw [ok_no c2, e2, bs, if_pos rfl]; exact ⟨iv2, ia2, rfl, r2 _⟩
  rw [e2, bs, if_neg one_0, nx_ok c2]
  rcases (m_stepE (mo := mo) (la := la) (g := g) u2).symm with ⟨iv3, e3, c3, r3⟩ | ⟨iv3, e3, c3, u3⟩
  · rw [ok_no c3, e3, bs, if_pos rfl]; exact ⟨iv3, ia2, rfl, r3 _⟩
  rw [e3, bs, if_neg one_0, nx_ok c3]
  have v0 : ia2 5 0 = (nmF (ia 4) n a 0 (ia 0 4 - 1)).2.2 := by rw [t2, upd_n (by decide), t1, upd_s]
  have v1 : ia2 5 1 = (nmF (ia 4) n (nmF (ia 4) n a 0 (ia 0 4 - 1)).2.1 0 1799).2.2 := by rw [t2, upd_s]
  have w0 : ia2 0 = ia 0 := u3.2.2.2.2.2 0 (by decide)
  have hv2 : Vld (ia2 0) := by rw [w0]; exact hv
  simp only [mh_r21, bs, mh_i5 (i := (0 : Int32)) (k := 0) rfl (by decide), mh_i5 (i := (1 : Int32)) (k := 1) rfl (by decide), mh_r1, v0, v1, m_placeOf hv2, w0, m_fails, pb0]
  by_cases d : plc (ia 0) what (nmF (ia 4) n a 0 (ia 0 4 - 1)).2.2 (nmF (ia 4) n (nmF (ia 4) n a 0 (ia 0 4 - 1)).2.1 0 1799).2.2 = -1
  · rw [if_pos d, if_pos d]
    exact ⟨va_up iv3 17 (flt 4 wh), ia2, by rw [okI_0.mpr n4]; rfl, u3.no (k := 4) (by omega) (by omega) hw⟩
  · rw [if_neg d, if_neg d]
    obtain ⟨p1, p2, _⟩ := m_placeT hv d
    rw [mh_t0 p1 (by omega), bs, w0]
    exact ⟨iv3, _, rfl, u3.ok⟩
theorem m_one {n a wh : Nat} {q what : Int32} (hv : Vld (ia 0)) (hq : q = nI wh) (hw : wh ≤ 400) (u0 : Cur iv ia iv ia n a) : ∃ iv' ia', fnX10_readOne (MH mo iv ia la g) mo q what = some (okI (oneF (ia 4) n a wh (ia 0) what (oneH what)).1, MH mo iv' ia' la g) ∧ StR iv ia iv' ia' (oneF (ia 4) n a wh (ia 0) what (oneH what)) := by
  subst hq
  have n4 : ¬ flt 4 wh = 0 := flt_ne (k := 4) (by omega) (by omega) hw
  have go : ∀ hi, ∃ iv' ia', fX10_readOne_22 (MH mo iv ia la g) mo (nI wh) what hi 0 0 mo = some (okI (oneF (ia 4) n a wh (ia 0) what hi).1, MH mo iv' ia' la g) ∧ StR iv ia iv' ia' (oneF (ia 4) n a wh (ia 0) what hi) := by
    intro hi
    unfold fX10_readOne_22 fX10_readOne_35 oneF
    simp only [pb0, pb1, bs]
    rcases (m_stepN (mo := mo) (la := la) (g := g) (p := 0) (k := 0) (lo := 0) (hi := hi) u0 rfl (by decide)).symm with ⟨iv1, ia1, e1, c1, r1⟩ | ⟨iv1, ia1, e1, c1, u1, t1⟩
    · rw [ok_no c1, e1, bs, if_pos rfl]; exact ⟨iv1, ia1, rfl, r1 _⟩
    rw [e1, bs, if_neg one_0, nx_ok c1]
    rcases (m_stepE (mo := mo) (la := la) (g := g) u1).symm with ⟨iv2, e2, c2, r2⟩ | ⟨iv2, e2, c2, u2⟩
    · rw [ok_no c2, e2, bs, if_pos rfl]; exact ⟨iv2, ia1, rfl, r2 _⟩
    rw [e2, bs, if_neg one_0, nx_ok c2]
    have v0 : ia1 5 0 = (nmF (ia 4) n a 0 hi).2.2 := by rw [t1, upd_s]
    have w0 : ia1 0 = ia 0 := u2.2.2.2.2.2 0 (by decide)
    have hv2 : Vld (ia1 0) := by rw [w0]; exact hv
    simp only [mh_r21, bs, mh_i5 (i := (0 : Int32)) (k := 0) rfl (by decide), mh_r1, v0, m_placeOf hv2, w0, m_fails, pb0]
    by_cases d : plc (ia 0) what 0 (nmF (ia 4) n a 0 hi).2.2 = -1
    · rw [if_pos d, if_pos d]
      exact ⟨va_up iv2 17 (flt 4 wh), ia1, by rw [okI_0.mpr n4]; rfl, u2.no (k := 4) (by omega) (by omega) hw⟩
    · rw [if_neg d, if_neg d]
      obtain ⟨p1, p2, _⟩ := m_placeT hv d
      rw [mh_t0 p1 (by omega), bs, w0]
      exact ⟨iv2, _, rfl, u2.ok⟩
  unfold fnX10_readOne oneH
  simp only [mh_is, bs, m_mostOf]
  by_cases c : 10 ≤ what
  · rw [if_pos c, if_pos c]; exact go _
  · rw [if_neg c, if_neg c]; exact go _
end MO
