/-! ===== the reference's reads, by its row w = ia 0 ===== -/
def inI (v lo hi : Int32) : Int32 := if v < lo then 0 else if hi < v then 0 else 1
theorem pb0 : pz_b 0 = some 0 := rfl
theorem pb1 : pz_b 1 = some 1 := rfl
theorem pb_in (v lo hi : Int32) : pz_b (inI v lo hi) = some (inI v lo hi) := by
  unfold inI; split
  · rfl
  · split <;> rfl
theorem m_in (v lo hi : Int32) : fnX10_in v lo hi = some (inI v lo hi) := by
  unfold fnX10_in fX10_in_14 fX10_in_15 inI
  split
  · rfl
  · split <;> rfl
theorem inI_0 {v lo hi : Int32} : inI v lo hi = 0 ↔ v < lo ∨ hi < v := by
  unfold inI
  by_cases h1 : v < lo
  · simp [h1]
  · by_cases h2 : hi < v
    · simp [h1, h2]
    · simp [h1, h2]
theorem inI_1 {v lo hi : Int32} (h : ¬ v < lo) (h2 : ¬ hi < v) : inI v lo hi = 1 := by
  unfold inI; rw [if_neg h, if_neg h2]
theorem m_isMonth (v : Int32) : fnX10_isMonth v = some (inI v 0 1799) := by
  unfold fnX10_isMonth; simp only [m_in, bs, pb_in]
section MA
variable {mo : Nat} {iv : Nat → Int32} {ia : Nat → Nat → Int32} {la : Nat → Nat → Int64} {g : pz_H}
theorem m_isSpouse (k : Int32) : fnX10_isSpouse (MH mo iv ia la g) mo k = some (inI k 0 (ia 0 4 - 1)) := by
  unfold fnX10_isSpouse; simp only [mh_is, mh_g0, mh_g4, mh_g6, mh_g12, mh_g14, mh_g15, mh_g16, mh_g17, mh_g18, mh_g19, mh_g20, mh_r1, mh_r2, mh_r3, mh_r5, mh_r7, mh_r8, mh_r9, mh_r10, mh_r11, mh_r13, mh_r21, mh_s0, mh_s4, mh_s6, mh_s12, mh_s14, mh_s15, mh_s16, mh_s17, mh_s18, mh_s19, mh_s20, mh_w0, mh_w1, mh_w2, mh_w3, mh_w4, mh_w5, mh_w6, mh_w7, mh_w8, mh_w9, mh_w10, bs, m_in, pb_in]
theorem m_its0 {k : Nat} {p : Int32} (hp : p = nI k) (hk : k < 4) : fnX10_its (MH mo iv ia la g) mo p (0 : Int32) = some (ia 0 (35 + 8 * k)) := by
  unfold fnX10_its
  have h : ((35 : Int32) + (8 : Int32) * p) + (0 : Int32) = nI (35 + 8 * k) := by
    subst hp
    rw [show (35 : Int32) = nI 35 from rfl, show (8 : Int32) = nI 8 from rfl, show (0 : Int32) = nI 0 from rfl, pk_mul, nI_add, nI_add, show 35 + 8 * k + 0 = 35 + 8 * k by omega]
  simp only [mh_is, mh_g0, mh_g4, mh_g6, mh_g12, mh_g14, mh_g15, mh_g16, mh_g17, mh_g18, mh_g19, mh_g20, mh_r1, mh_r2, mh_r3, mh_r5, mh_r7, mh_r8, mh_r9, mh_r10, mh_r11, mh_r13, mh_r21, mh_s0, mh_s4, mh_s6, mh_s12, mh_s14, mh_s15, mh_s16, mh_s17, mh_s18, mh_s19, mh_s20, mh_w0, mh_w1, mh_w2, mh_w3, mh_w4, mh_w5, mh_w6, mh_w7, mh_w8, mh_w9, mh_w10, bs, mh_i0 h (by omega)]
theorem m_its1 {k : Nat} {p : Int32} (hp : p = nI k) (hk : k < 4) : fnX10_its (MH mo iv ia la g) mo p (1 : Int32) = some (ia 0 (36 + 8 * k)) := by
  unfold fnX10_its
  have h : ((35 : Int32) + (8 : Int32) * p) + (1 : Int32) = nI (36 + 8 * k) := by
    subst hp
    rw [show (35 : Int32) = nI 35 from rfl, show (8 : Int32) = nI 8 from rfl, show (1 : Int32) = nI 1 from rfl, pk_mul, nI_add, nI_add, show 35 + 8 * k + 1 = 36 + 8 * k by omega]
  simp only [mh_is, mh_g0, mh_g4, mh_g6, mh_g12, mh_g14, mh_g15, mh_g16, mh_g17, mh_g18, mh_g19, mh_g20, mh_r1, mh_r2, mh_r3, mh_r5, mh_r7, mh_r8, mh_r9, mh_r10, mh_r11, mh_r13, mh_r21, mh_s0, mh_s4, mh_s6, mh_s12, mh_s14, mh_s15, mh_s16, mh_s17, mh_s18, mh_s19, mh_s20, mh_w0, mh_w1, mh_w2, mh_w3, mh_w4, mh_w5, mh_w6, mh_w7, mh_w8, mh_w9, mh_w10, bs, mh_i0 h (by omega)]
theorem m_its2 {k : Nat} {p : Int32} (hp : p = nI k) (hk : k < 4) : fnX10_its (MH mo iv ia la g) mo p (2 : Int32) = some (ia 0 (37 + 8 * k)) := by
  unfold fnX10_its
  have h : ((35 : Int32) + (8 : Int32) * p) + (2 : Int32) = nI (37 + 8 * k) := by
    subst hp
    rw [show (35 : Int32) = nI 35 from rfl, show (8 : Int32) = nI 8 from rfl, show (2 : Int32) = nI 2 from rfl, pk_mul, nI_add, nI_add, show 35 + 8 * k + 2 = 37 + 8 * k by omega]
  simp only [mh_is, mh_g0, mh_g4, mh_g6, mh_g12, mh_g14, mh_g15, mh_g16, mh_g17, mh_g18, mh_g19, mh_g20, mh_r1, mh_r2, mh_r3, mh_r5, mh_r7, mh_r8, mh_r9, mh_r10, mh_r11, mh_r13, mh_r21, mh_s0, mh_s4, mh_s6, mh_s12, mh_s14, mh_s15, mh_s16, mh_s17, mh_s18, mh_s19, mh_s20, mh_w0, mh_w1, mh_w2, mh_w3, mh_w4, mh_w5, mh_w6, mh_w7, mh_w8, mh_w9, mh_w10, bs, mh_i0 h (by omega)]
theorem m_its3 {k : Nat} {p : Int32} (hp : p = nI k) (hk : k < 4) : fnX10_its (MH mo iv ia la g) mo p (3 : Int32) = some (ia 0 (38 + 8 * k)) := by
  unfold fnX10_its
  have h : ((35 : Int32) + (8 : Int32) * p) + (3 : Int32) = nI (38 + 8 * k) := by
    subst hp
    rw [show (35 : Int32) = nI 35 from rfl, show (8 : Int32) = nI 8 from rfl, show (3 : Int32) = nI 3 from rfl, pk_mul, nI_add, nI_add, show 35 + 8 * k + 3 = 38 + 8 * k by omega]
  simp only [mh_is, mh_g0, mh_g4, mh_g6, mh_g12, mh_g14, mh_g15, mh_g16, mh_g17, mh_g18, mh_g19, mh_g20, mh_r1, mh_r2, mh_r3, mh_r5, mh_r7, mh_r8, mh_r9, mh_r10, mh_r11, mh_r13, mh_r21, mh_s0, mh_s4, mh_s6, mh_s12, mh_s14, mh_s15, mh_s16, mh_s17, mh_s18, mh_s19, mh_s20, mh_w0, mh_w1, mh_w2, mh_w3, mh_w4, mh_w5, mh_w6, mh_w7, mh_w8, mh_w9, mh_w10, bs, mh_i0 h (by omega)]
theorem m_its4 {k : Nat} {p : Int32} (hp : p = nI k) (hk : k < 4) : fnX10_its (MH mo iv ia la g) mo p (4 : Int32) = some (ia 0 (39 + 8 * k)) := by
  unfold fnX10_its
  have h : ((35 : Int32) + (8 : Int32) * p) + (4 : Int32) = nI (39 + 8 * k) := by
    subst hp
    rw [show (35 : Int32) = nI 35 from rfl, show (8 : Int32) = nI 8 from rfl, show (4 : Int32) = nI 4 from rfl, pk_mul, nI_add, nI_add, show 35 + 8 * k + 4 = 39 + 8 * k by omega]
  simp only [mh_is, mh_g0, mh_g4, mh_g6, mh_g12, mh_g14, mh_g15, mh_g16, mh_g17, mh_g18, mh_g19, mh_g20, mh_r1, mh_r2, mh_r3, mh_r5, mh_r7, mh_r8, mh_r9, mh_r10, mh_r11, mh_r13, mh_r21, mh_s0, mh_s4, mh_s6, mh_s12, mh_s14, mh_s15, mh_s16, mh_s17, mh_s18, mh_s19, mh_s20, mh_w0, mh_w1, mh_w2, mh_w3, mh_w4, mh_w5, mh_w6, mh_w7, mh_w8, mh_w9, mh_w10, bs, mh_i0 h (by omega)]
theorem m_its5 {k : Nat} {p : Int32} (hp : p = nI k) (hk : k < 4) : fnX10_its (MH mo iv ia la g) mo p (5 : Int32) = some (ia 0 (40 + 8 * k)) := by
  unfold fnX10_its
  have h : ((35 : Int32) + (8 : Int32) * p) + (5 : Int32) = nI (40 + 8 * k) := by
    subst hp
    rw [show (35 : Int32) = nI 35 from rfl, show (8 : Int32) = nI 8 from rfl, show (5 : Int32) = nI 5 from rfl, pk_mul, nI_add, nI_add, show 35 + 8 * k + 5 = 40 + 8 * k by omega]
  simp only [mh_is, mh_g0, mh_g4, mh_g6, mh_g12, mh_g14, mh_g15, mh_g16, mh_g17, mh_g18, mh_g19, mh_g20, mh_r1, mh_r2, mh_r3, mh_r5, mh_r7, mh_r8, mh_r9, mh_r10, mh_r11, mh_r13, mh_r21, mh_s0, mh_s4, mh_s6, mh_s12, mh_s14, mh_s15, mh_s16, mh_s17, mh_s18, mh_s19, mh_s20, mh_w0, mh_w1, mh_w2, mh_w3, mh_w4, mh_w5, mh_w6, mh_w7, mh_w8, mh_w9, mh_w10, bs, mh_i0 h (by omega)]
theorem m_its6 {k : Nat} {p : Int32} (hp : p = nI k) (hk : k < 4) : fnX10_its (MH mo iv ia la g) mo p (6 : Int32) = some (ia 0 (41 + 8 * k)) := by
  unfold fnX10_its
  have h : ((35 : Int32) + (8 : Int32) * p) + (6 : Int32) = nI (41 + 8 * k) := by
    subst hp
    rw [show (35 : Int32) = nI 35 from rfl, show (8 : Int32) = nI 8 from rfl, show (6 : Int32) = nI 6 from rfl, pk_mul, nI_add, nI_add, show 35 + 8 * k + 6 = 41 + 8 * k by omega]
  simp only [mh_is, mh_g0, mh_g4, mh_g6, mh_g12, mh_g14, mh_g15, mh_g16, mh_g17, mh_g18, mh_g19, mh_g20, mh_r1, mh_r2, mh_r3, mh_r5, mh_r7, mh_r8, mh_r9, mh_r10, mh_r11, mh_r13, mh_r21, mh_s0, mh_s4, mh_s6, mh_s12, mh_s14, mh_s15, mh_s16, mh_s17, mh_s18, mh_s19, mh_s20, mh_w0, mh_w1, mh_w2, mh_w3, mh_w4, mh_w5, mh_w6, mh_w7, mh_w8, mh_w9, mh_w10, bs, mh_i0 h (by omega)]
theorem m_its7 {k : Nat} {p : Int32} (hp : p = nI k) (hk : k < 4) : fnX10_its (MH mo iv ia la g) mo p (7 : Int32) = some (ia 0 (42 + 8 * k)) := by
  unfold fnX10_its
  have h : ((35 : Int32) + (8 : Int32) * p) + (7 : Int32) = nI (42 + 8 * k) := by
    subst hp
    rw [show (35 : Int32) = nI 35 from rfl, show (8 : Int32) = nI 8 from rfl, show (7 : Int32) = nI 7 from rfl, pk_mul, nI_add, nI_add, show 35 + 8 * k + 7 = 42 + 8 * k by omega]
  simp only [mh_is, mh_g0, mh_g4, mh_g6, mh_g12, mh_g14, mh_g15, mh_g16, mh_g17, mh_g18, mh_g19, mh_g20, mh_r1, mh_r2, mh_r3, mh_r5, mh_r7, mh_r8, mh_r9, mh_r10, mh_r11, mh_r13, mh_r21, mh_s0, mh_s4, mh_s6, mh_s12, mh_s14, mh_s15, mh_s16, mh_s17, mh_s18, mh_s19, mh_s20, mh_w0, mh_w1, mh_w2, mh_w3, mh_w4, mh_w5, mh_w6, mh_w7, mh_w8, mh_w9, mh_w10, bs, mh_i0 h (by omega)]
theorem m_sp0 {k : Nat} {p : Int32} (hp : p = nI k) (hk : k < 8) : fnX10_spanOf (MH mo iv ia la g) mo p (0 : Int32) = some (ia 0 (11 + 3 * k)) := by
  unfold fnX10_spanOf
  have h : ((11 : Int32) + (3 : Int32) * p) + (0 : Int32) = nI (11 + 3 * k) := by
    subst hp
    rw [show (11 : Int32) = nI 11 from rfl, show (3 : Int32) = nI 3 from rfl, show (0 : Int32) = nI 0 from rfl, pk_mul, nI_add, nI_add, show 11 + 3 * k + 0 = 11 + 3 * k by omega]
  simp only [mh_is, mh_g0, mh_g4, mh_g6, mh_g12, mh_g14, mh_g15, mh_g16, mh_g17, mh_g18, mh_g19, mh_g20, mh_r1, mh_r2, mh_r3, mh_r5, mh_r7, mh_r8, mh_r9, mh_r10, mh_r11, mh_r13, mh_r21, mh_s0, mh_s4, mh_s6, mh_s12, mh_s14, mh_s15, mh_s16, mh_s17, mh_s18, mh_s19, mh_s20, mh_w0, mh_w1, mh_w2, mh_w3, mh_w4, mh_w5, mh_w6, mh_w7, mh_w8, mh_w9, mh_w10, bs, mh_i0 h (by omega)]
theorem m_sp1 {k : Nat} {p : Int32} (hp : p = nI k) (hk : k < 8) : fnX10_spanOf (MH mo iv ia la g) mo p (1 : Int32) = some (ia 0 (12 + 3 * k)) := by
  unfold fnX10_spanOf
  have h : ((11 : Int32) + (3 : Int32) * p) + (1 : Int32) = nI (12 + 3 * k) := by
    subst hp
    rw [show (11 : Int32) = nI 11 from rfl, show (3 : Int32) = nI 3 from rfl, show (1 : Int32) = nI 1 from rfl, pk_mul, nI_add, nI_add, show 11 + 3 * k + 1 = 12 + 3 * k by omega]
  simp only [mh_is, mh_g0, mh_g4, mh_g6, mh_g12, mh_g14, mh_g15, mh_g16, mh_g17, mh_g18, mh_g19, mh_g20, mh_r1, mh_r2, mh_r3, mh_r5, mh_r7, mh_r8, mh_r9, mh_r10, mh_r11, mh_r13, mh_r21, mh_s0, mh_s4, mh_s6, mh_s12, mh_s14, mh_s15, mh_s16, mh_s17, mh_s18, mh_s19, mh_s20, mh_w0, mh_w1, mh_w2, mh_w3, mh_w4, mh_w5, mh_w6, mh_w7, mh_w8, mh_w9, mh_w10, bs, mh_i0 h (by omega)]
theorem m_sp2 {k : Nat} {p : Int32} (hp : p = nI k) (hk : k < 8) : fnX10_spanOf (MH mo iv ia la g) mo p (2 : Int32) = some (ia 0 (13 + 3 * k)) := by
  unfold fnX10_spanOf
  have h : ((11 : Int32) + (3 : Int32) * p) + (2 : Int32) = nI (13 + 3 * k) := by
    subst hp
    rw [show (11 : Int32) = nI 11 from rfl, show (3 : Int32) = nI 3 from rfl, show (2 : Int32) = nI 2 from rfl, pk_mul, nI_add, nI_add, show 11 + 3 * k + 2 = 13 + 3 * k by omega]
  simp only [mh_is, mh_g0, mh_g4, mh_g6, mh_g12, mh_g14, mh_g15, mh_g16, mh_g17, mh_g18, mh_g19, mh_g20, mh_r1, mh_r2, mh_r3, mh_r5, mh_r7, mh_r8, mh_r9, mh_r10, mh_r11, mh_r13, mh_r21, mh_s0, mh_s4, mh_s6, mh_s12, mh_s14, mh_s15, mh_s16, mh_s17, mh_s18, mh_s19, mh_s20, mh_w0, mh_w1, mh_w2, mh_w3, mh_w4, mh_w5, mh_w6, mh_w7, mh_w8, mh_w9, mh_w10, bs, mh_i0 h (by omega)]
theorem m_isParted {k : Nat} {p : Int32} (hp : p = nI k) (hk : k < 4) : fnX10_isParted (MH mo iv ia la g) mo p = some (if ia 0 (37 + 8 * k) = -1 then 0 else 1) := by
  unfold fnX10_isParted fX10_isParted_15
  simp only [mh_is, mh_g0, mh_g4, mh_g6, mh_g12, mh_g14, mh_g15, mh_g16, mh_g17, mh_g18, mh_g19, mh_g20, mh_r1, mh_r2, mh_r3, mh_r5, mh_r7, mh_r8, mh_r9, mh_r10, mh_r11, mh_r13, mh_r21, mh_s0, mh_s4, mh_s6, mh_s12, mh_s14, mh_s15, mh_s16, mh_s17, mh_s18, mh_s19, mh_s20, mh_w0, mh_w1, mh_w2, mh_w3, mh_w4, mh_w5, mh_w6, mh_w7, mh_w8, mh_w9, mh_w10, bs, m_its2 hp hk]
  split <;> rfl
/-- months of a span from x on, ahead of y, that lie from a on, ahead of b -/
def svT (x y a b : Int32) : Int32 := if (if b ≤ y then b else y) ≤ (if x ≤ a then a else x) then 0 else (if b ≤ y then b else y) - (if x ≤ a then a else x)
def svN (w : Nat → Int32) (a b : Int32) : Nat → Int32
  | 0 => 0
  | k + 1 => svN w a b k + svT (w (11 + 3 * k)) (w (12 + 3 * k)) a b
/-- how many spans, spouses, years -/
def cS (w : Nat → Int32) : Nat := (w 3).toNatClampNeg
def cP (w : Nat → Int32) : Nat := (w 4).toNatClampNeg
def cY (w : Nat → Int32) : Nat := (w 5).toNatClampNeg
def Cnt (w : Nat → Int32) : Prop := (w 3 = nI (cS w) ∧ cS w ≤ 8) ∧ (w 4 = nI (cP w) ∧ cP w ≤ 4) ∧ (w 5 = nI (cY w) ∧ cY w ≤ 10)
def svc (w : Nat → Int32) (a b : Int32) : Int32 := svN w a b (cS w)
theorem m_serviceIn_loop {a b : Int32} (hc : Cnt (ia 0)) : ∀ (N i : Nat), i ≤ cS (ia 0) → cS (ia 0) - i < N → fX10_serviceIn_5 (MH mo iv ia la g) N mo a b (svN (ia 0) a b i) (nI i) = some (svc (ia 0) a b) := by
  intro N
  have hn := hc.1.1
  have h8 := hc.1.2
  induction N with
  | zero => intro i _ h; omega
  | succ N ih =>
    intro i hi hN
    show fX10_serviceIn_5b _ _ _ _ _ _ _ = _
    unfold fX10_serviceIn_5b
    simp only [mh_is, mh_g0, mh_g4, mh_g6, mh_g12, mh_g14, mh_g15, mh_g16, mh_g17, mh_g18, mh_g19, mh_g20, mh_r1, mh_r2, mh_r3, mh_r5, mh_r7, mh_r8, mh_r9, mh_r10, mh_r11, mh_r13, mh_r21, mh_s0, mh_s4, mh_s6, mh_s12, mh_s14, mh_s15, mh_s16, mh_s17, mh_s18, mh_s19, mh_s20, mh_w0, mh_w1, mh_w2, mh_w3, mh_w4, mh_w5, mh_w6, mh_w7, mh_w8, mh_w9, mh_w10, bs]
    rw [hn]
    by_cases h : i = cS (ia 0)
    · rw [← h, if_pos (Int32.le_refl _), h]; rfl
    · have hlt : i < cS (ia 0) := by omega
      rw [if_neg (by rw [nI_leI (by omega) (by omega)]; omega)]
      simp only [m_sp0 (p := nI i) rfl (by omega), m_sp1 (p := nI i) rfl (by omega), bs, fX10_serviceIn_38, fX10_serviceIn_62, fX10_serviceIn_81, nI_1]
      have key := ih (i + 1) (by omega) (by omega)
      have hs : svN (ia 0) a b (i + 1) = svN (ia 0) a b i + svT (ia 0 (11 + 3 * i)) (ia 0 (12 + 3 * i)) a b := rfl
      rw [hs] at key
      unfold svT at key
      by_cases c1 : ia 0 (11 + 3 * i) ≤ a <;> by_cases c2 : b ≤ ia 0 (12 + 3 * i) <;> simp only [c1, c2, ↓reduceIte] at key ⊢ <;> (split <;> (rename_i c3; simp only [c3, ↓reduceIte] at key; exact key))
theorem m_serviceIn {a b : Int32} (hc : Cnt (ia 0)) : fnX10_serviceIn (MH mo iv ia la g) mo a b = some (svc (ia 0) a b) := by
  unfold fnX10_serviceIn
  simp only [mh_is, mh_g0, mh_g4, mh_g6, mh_g12, mh_g14, mh_g15, mh_g16, mh_g17, mh_g18, mh_g19, mh_g20, mh_r1, mh_r2, mh_r3, mh_r5, mh_r7, mh_r8, mh_r9, mh_r10, mh_r11, mh_r13, mh_r21, mh_s0, mh_s4, mh_s6, mh_s12, mh_s14, mh_s15, mh_s16, mh_s17, mh_s18, mh_s19, mh_s20, mh_w0, mh_w1, mh_w2, mh_w3, mh_w4, mh_w5, mh_w6, mh_w7, mh_w8, mh_w9, mh_w10, bs]
  exact m_serviceIn_loop hc pz_F 0 (by omega) (by have := hc.1.2; unfold pz_F; omega)
theorem m_served (hc : Cnt (ia 0)) : fnX10_served (MH mo iv ia la g) mo = some (svc (ia 0) 0 1800) := by
  unfold fnX10_served; simp only [mh_is, mh_g0, mh_g4, mh_g6, mh_g12, mh_g14, mh_g15, mh_g16, mh_g17, mh_g18, mh_g19, mh_g20, mh_r1, mh_r2, mh_r3, mh_r5, mh_r7, mh_r8, mh_r9, mh_r10, mh_r11, mh_r13, mh_r21, mh_s0, mh_s4, mh_s6, mh_s12, mh_s14, mh_s15, mh_s16, mh_s17, mh_s18, mh_s19, mh_s20, mh_w0, mh_w1, mh_w2, mh_w3, mh_w4, mh_w5, mh_w6, mh_w7, mh_w8, mh_w9, mh_w10, bs, m_serviceIn hc]
/-- the last 36 months' pay together, from the last span on -/
def fpL (w : Nat → Int32) : Nat → Int64 → Int32 → Int32
  | 0, s, m => if m = 0 then 0 else (s / m.toInt64).toInt32
  | k + 1, s, m => if w (12 + 3 * k) - w (11 + 3 * k) ≤ 36 - m then fpL w k (s + (w (12 + 3 * k) - w (11 + 3 * k)).toInt64 * (w (13 + 3 * k)).toInt64) (m + (w (12 + 3 * k) - w (11 + 3 * k))) else fpL w k (s + (36 - m).toInt64 * (w (13 + 3 * k)).toInt64) (m + (36 - m))
def fpay (w : Nat → Int32) : Int32 := fpL w (cS w) 0 0
theorem i64_0 {x : Int32} (h : ¬ x = 0) : ¬ x.toInt64 = 0 := by
  intro q; apply h
  have h1 := congrArg Int64.toInt q
  rw [Int32.toInt_toInt64] at h1
  exact Int32.toInt_inj.mp h1
theorem m_finalPay_loop : ∀ (N k : Nat) (s : Int64) (m : Int32), k ≤ 8 → k < N → fX10_finalPay_14 (MH mo iv ia la g) N mo s m (nI k - 1) = some (fpL (ia 0) k s m) := by
  intro N
  induction N with
  | zero => intro k s m _ h; omega
  | succ N ih =>
    intro k s m hk hN
    show fX10_finalPay_14b _ _ _ _ _ _ = _
    unfold fX10_finalPay_14b
    cases k with
    | zero =>
      rw [if_pos (by decide)]
      unfold fX10_finalPay_95 fpL
      by_cases hm : m = 0
      · simp only [hm, ↓reduceIte]
      · simp only [hm, i64_0 hm, ↓reduceIte]
    | succ k =>
      rw [nI_pred, if_neg (nI_pos (by omega))]
      simp only [m_sp0 (p := nI k) rfl (by omega), m_sp1 (p := nI k) rfl (by omega), bs]
      unfold fX10_finalPay_54 fpL
      have e : nI k + (-1) = nI k - 1 := by rw [Int32.sub_eq_add_neg]
      simp only [m_sp2 (p := nI k) rfl (by omega), bs, e]
      split
      · exact ih k _ _ (by omega) (by omega)
      · exact ih k _ _ (by omega) (by omega)
theorem m_finalPay (hc : Cnt (ia 0)) : fnX10_finalPay (MH mo iv ia la g) mo = some (fpay (ia 0)) := by
  unfold fnX10_finalPay
  simp only [mh_is, mh_g0, mh_g4, mh_g6, mh_g12, mh_g14, mh_g15, mh_g16, mh_g17, mh_g18, mh_g19, mh_g20, mh_r1, mh_r2, mh_r3, mh_r5, mh_r7, mh_r8, mh_r9, mh_r10, mh_r11, mh_r13, mh_r21, mh_s0, mh_s4, mh_s6, mh_s12, mh_s14, mh_s15, mh_s16, mh_s17, mh_s18, mh_s19, mh_s20, mh_w0, mh_w1, mh_w2, mh_w3, mh_w4, mh_w5, mh_w6, mh_w7, mh_w8, mh_w9, mh_w10, bs]
  rw [hc.1.1]
  exact m_finalPay_loop pz_F (cS (ia 0)) 0 0 hc.1.2 (by have := hc.1.2; unfold pz_F; omega)
def basev (w : Nat → Int32) : Int32 := ((fpay w).toInt64 * (w 6).toInt64 * (svc w 0 1800).toInt64 / 120000).toInt32
theorem m_base (hc : Cnt (ia 0)) : fnX10_base (MH mo iv ia la g) mo = some (basev (ia 0)) := by
  unfold fnX10_base; simp only [mh_is, mh_g0, mh_g4, mh_g6, mh_g12, mh_g14, mh_g15, mh_g16, mh_g17, mh_g18, mh_g19, mh_g20, mh_r1, mh_r2, mh_r3, mh_r5, mh_r7, mh_r8, mh_r9, mh_r10, mh_r11, mh_r13, mh_r21, mh_s0, mh_s4, mh_s6, mh_s12, mh_s14, mh_s15, mh_s16, mh_s17, mh_s18, mh_s19, mh_s20, mh_w0, mh_w1, mh_w2, mh_w3, mh_w4, mh_w5, mh_w6, mh_w7, mh_w8, mh_w9, mh_w10, bs, m_finalPay hc, m_served hc]; rfl
def partv (w : Nat → Int32) : Int32 := if w 7 - (w 1 - w 0) ≤ 0 then 1000 else 1000 - w 8 * (w 7 - (w 1 - w 0))
def first (w : Nat → Int32) : Int32 := if w 1 = -1 then 0 else if partv w ≤ 0 then 0 else ((basev w).toInt64 * (partv w).toInt64 / 1000).toInt32
theorem m_firstPaid (hc : Cnt (ia 0)) : fnX10_firstPaid (MH mo iv ia la g) mo = some (first (ia 0)) := by
  unfold fnX10_firstPaid fX10_firstPaid_57 fX10_firstPaid_79 first partv
  simp only [mh_is, mh_g0, mh_g4, mh_g6, mh_g12, mh_g14, mh_g15, mh_g16, mh_g17, mh_g18, mh_g19, mh_g20, mh_r1, mh_r2, mh_r3, mh_r5, mh_r7, mh_r8, mh_r9, mh_r10, mh_r11, mh_r13, mh_r21, mh_s0, mh_s4, mh_s6, mh_s12, mh_s14, mh_s15, mh_s16, mh_s17, mh_s18, mh_s19, mh_s20, mh_w0, mh_w1, mh_w2, mh_w3, mh_w4, mh_w5, mh_w6, mh_w7, mh_w8, mh_w9, mh_w10, bs, m_base hc]
  split
  · rfl
  · split
    · simp only [show ¬ (1000 : Int32) ≤ 0 by decide, ↓reduceIte]
    · split <;> rfl
def wed (w : Nat → Int32) (k : Nat) : Int32 := if w (37 + 8 * k) = -1 then 0 else svc w (w (36 + 8 * k)) (w (37 + 8 * k))
theorem m_wedIn (hc : Cnt (ia 0)) {k : Nat} {p : Int32} (hp : p = nI k) (hk : k < 4) : fnX10_wedIn (MH mo iv ia la g) mo p = some (wed (ia 0) k) := by
  unfold fnX10_wedIn fX10_wedIn_28 wed
  simp only [mh_is, mh_g0, mh_g4, mh_g6, mh_g12, mh_g14, mh_g15, mh_g16, mh_g17, mh_g18, mh_g19, mh_g20, mh_r1, mh_r2, mh_r3, mh_r5, mh_r7, mh_r8, mh_r9, mh_r10, mh_r11, mh_r13, mh_r21, mh_s0, mh_s4, mh_s6, mh_s12, mh_s14, mh_s15, mh_s16, mh_s17, mh_s18, mh_s19, mh_s20, mh_w0, mh_w1, mh_w2, mh_w3, mh_w4, mh_w5, mh_w6, mh_w7, mh_w8, mh_w9, mh_w10, bs, m_isParted hp hk, m_its1 hp hk, m_its2 hp hk, m_serviceIn hc]
  split <;> simp_all
def beg (w : Nat → Int32) (k : Nat) : Int32 := if w 1 = -1 then -1 else if w 1 ≤ w (41 + 8 * k) then w (41 + 8 * k) else w 1
theorem m_begin {k : Nat} {p : Int32} (hp : p = nI k) (hk : k < 4) : fnX10_begin (MH mo iv ia la g) mo p = some (beg (ia 0) k) := by
  unfold fnX10_begin fX10_begin_46 beg
  simp only [mh_is, mh_g0, mh_g4, mh_g6, mh_g12, mh_g14, mh_g15, mh_g16, mh_g17, mh_g18, mh_g19, mh_g20, mh_r1, mh_r2, mh_r3, mh_r5, mh_r7, mh_r8, mh_r9, mh_r10, mh_r11, mh_r13, mh_r21, mh_s0, mh_s4, mh_s6, mh_s12, mh_s14, mh_s15, mh_s16, mh_s17, mh_s18, mh_s19, mh_s20, mh_w0, mh_w1, mh_w2, mh_w3, mh_w4, mh_w5, mh_w6, mh_w7, mh_w8, mh_w9, mh_w10, bs, m_its6 hp hk]
  split
  · rfl
  · split <;> rfl
theorem m_areBorn {k : Nat} {p t : Int32} (hp : p = nI k) (hk : k < 4) : fnX10_areBorn (MH mo iv ia la g) mo p t = some (if t < ia 0 0 then 0 else if t < ia 0 (35 + 8 * k) then 0 else 1) := by
  unfold fnX10_areBorn fX10_areBorn_24 fX10_areBorn_25
  simp only [mh_is, mh_g0, mh_g4, mh_g6, mh_g12, mh_g14, mh_g15, mh_g16, mh_g17, mh_g18, mh_g19, mh_g20, mh_r1, mh_r2, mh_r3, mh_r5, mh_r7, mh_r8, mh_r9, mh_r10, mh_r11, mh_r13, mh_r21, mh_s0, mh_s4, mh_s6, mh_s12, mh_s14, mh_s15, mh_s16, mh_s17, mh_s18, mh_s19, mh_s20, mh_w0, mh_w1, mh_w2, mh_w3, mh_w4, mh_w5, mh_w6, mh_w7, mh_w8, mh_w9, mh_w10, bs, m_its0 hp hk, pb0, pb1]
  split
  · rfl
  · split <;> rfl
def lvin (d m : Int32) : Int32 := if d = -1 then 1 else if d ≤ m then 0 else 1
theorem m_livesIn {d m : Int32} : fnX10_livesIn (MH mo iv ia la g) mo d m = some (lvin d m) := by
  unfold fnX10_livesIn fX10_livesIn_10 fX10_livesIn_15 lvin
  simp only [mh_is, mh_g0, mh_g4, mh_g6, mh_g12, mh_g14, mh_g15, mh_g16, mh_g17, mh_g18, mh_g19, mh_g20, mh_r1, mh_r2, mh_r3, mh_r5, mh_r7, mh_r8, mh_r9, mh_r10, mh_r11, mh_r13, mh_r21, mh_s0, mh_s4, mh_s6, mh_s12, mh_s14, mh_s15, mh_s16, mh_s17, mh_s18, mh_s19, mh_s20, mh_w0, mh_w1, mh_w2, mh_w3, mh_w4, mh_w5, mh_w6, mh_w7, mh_w8, mh_w9, mh_w10, bs, pb0, pb1]
  split
  · rfl
  · split <;> rfl
theorem m_isWho {p : Int32} : fnX10_isWho (MH mo iv ia la g) mo p = some (if p = 10 then 1 else inI p 0 (ia 0 4 - 1)) := by
  unfold fnX10_isWho fX10_isWho_14 fX10_isWho_19
  simp only [mh_is, mh_g0, mh_g4, mh_g6, mh_g12, mh_g14, mh_g15, mh_g16, mh_g17, mh_g18, mh_g19, mh_g20, mh_r1, mh_r2, mh_r3, mh_r5, mh_r7, mh_r8, mh_r9, mh_r10, mh_r11, mh_r13, mh_r21, mh_s0, mh_s4, mh_s6, mh_s12, mh_s14, mh_s15, mh_s16, mh_s17, mh_s18, mh_s19, mh_s20, mh_w0, mh_w1, mh_w2, mh_w3, mh_w4, mh_w5, mh_w6, mh_w7, mh_w8, mh_w9, mh_w10, bs, m_isSpouse, pb0, pb1]
  split
  · rfl
  · split
    · rename_i h; rw [h]
    · rename_i h
      have := (not_congr inI_0).mp h
      rw [inI_1 (fun q => this (Or.inl q)) (fun q => this (Or.inr q))]
theorem m_bornM : fnX10_bornOf (MH mo iv ia la g) mo 10 = some (ia 0 0) := by
  unfold fnX10_bornOf fX10_bornOf_21; simp only [mh_is, mh_g0, mh_g4, mh_g6, mh_g12, mh_g14, mh_g15, mh_g16, mh_g17, mh_g18, mh_g19, mh_g20, mh_r1, mh_r2, mh_r3, mh_r5, mh_r7, mh_r8, mh_r9, mh_r10, mh_r11, mh_r13, mh_r21, mh_s0, mh_s4, mh_s6, mh_s12, mh_s14, mh_s15, mh_s16, mh_s17, mh_s18, mh_s19, mh_s20, mh_w0, mh_w1, mh_w2, mh_w3, mh_w4, mh_w5, mh_w6, mh_w7, mh_w8, mh_w9, mh_w10, bs, ↓reduceIte]
theorem m_bornS {k : Nat} {p : Int32} (hp : p = nI k) (hk : k < 4) : fnX10_bornOf (MH mo iv ia la g) mo p = some (ia 0 (35 + 8 * k)) := by
  unfold fnX10_bornOf fX10_bornOf_21
  have h : ¬ p = 10 := by
    subst hp; rw [show (10 : Int32) = nI 10 from rfl, nI_eq (by omega) (by decide)]; omega
  simp only [mh_is, mh_g0, mh_g4, mh_g6, mh_g12, mh_g14, mh_g15, mh_g16, mh_g17, mh_g18, mh_g19, mh_g20, mh_r1, mh_r2, mh_r3, mh_r5, mh_r7, mh_r8, mh_r9, mh_r10, mh_r11, mh_r13, mh_r21, mh_s0, mh_s4, mh_s6, mh_s12, mh_s14, mh_s15, mh_s16, mh_s17, mh_s18, mh_s19, mh_s20, mh_w0, mh_w1, mh_w2, mh_w3, mh_w4, mh_w5, mh_w6, mh_w7, mh_w8, mh_w9, mh_w10, bs, h, ↓reduceIte, m_its0 hp hk]
def ispd (w : Nat → Int32) (k : Nat) (m : Int32) : Int32 := if w (37 + 8 * k) = -1 then 0 else if m < w (37 + 8 * k) then 0 else if w 1 = -1 then 0 else if m < beg w k then 0 else lvin (w (42 + 8 * k)) m
theorem lvin_b (d m : Int32) : lvin d m = 0 ∨ lvin d m = 1 := by
  unfold lvin; split
  · right; rfl
  · split
    · left; rfl
    · right; rfl
theorem m_isPaid {k : Nat} {p m : Int32} (hp : p = nI k) (hk : k < 4) : fnX10_isPaid (MH mo iv ia la g) mo p m = some (ispd (ia 0) k m) := by
  unfold fnX10_isPaid fX10_isPaid_56 fX10_isPaid_57 ispd
  simp only [mh_is, mh_g0, mh_g4, mh_g6, mh_g12, mh_g14, mh_g15, mh_g16, mh_g17, mh_g18, mh_g19, mh_g20, mh_r1, mh_r2, mh_r3, mh_r5, mh_r7, mh_r8, mh_r9, mh_r10, mh_r11, mh_r13, mh_r21, mh_s0, mh_s4, mh_s6, mh_s12, mh_s14, mh_s15, mh_s16, mh_s17, mh_s18, mh_s19, mh_s20, mh_w0, mh_w1, mh_w2, mh_w3, mh_w4, mh_w5, mh_w6, mh_w7, mh_w8, mh_w9, mh_w10, bs, m_isParted hp hk, m_its2 hp hk, m_its7 hp hk, m_begin hp hk, m_livesIn, pb0, pb1]
  split
  · rw [if_pos rfl]
  · rw [if_neg (by decide)]
    split
    · rfl
    · split
      · rfl
      · split
        · rfl
        · rcases lvin_b (ia 0 (42 + 8 * k)) m with q | q <;> rw [q] <;> rfl
end MA
