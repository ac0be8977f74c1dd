/-! ===== the reference's rows: wholes, discounts, odds; what is told is in bounds ===== -/
/-- what is told is in bounds -/
def Vld (w : Nat → Int32) : Prop :=
  Cnt w ∧ (0 ≤ (w 0).toInt ∧ (w 0).toInt ≤ 1799) ∧
  (w 1 = -1 ∨ ((w 0).toInt ≤ (w 1).toInt ∧ (w 1).toInt ≤ 1799 ∧ ∀ k, k < cS w → (w (12 + 3 * k)).toInt ≤ (w 1).toInt)) ∧
  (w 2 = -1 ∨ ((w 0).toInt < (w 2).toInt ∧ (w 2).toInt ≤ 1799)) ∧
  (0 ≤ (w 6).toInt ∧ (w 6).toInt ≤ 400) ∧ (0 ≤ (w 7).toInt ∧ (w 7).toInt ≤ 1200) ∧ (0 ≤ (w 8).toInt ∧ (w 8).toInt ≤ 10) ∧ (0 ≤ (w 9).toInt ∧ (w 9).toInt ≤ 30) ∧ (0 ≤ (w 10).toInt ∧ (w 10).toInt ≤ 200) ∧
  (∀ k, k < cS w → (w 0).toInt ≤ (w (11 + 3 * k)).toInt ∧ (w (11 + 3 * k)).toInt < (w (12 + 3 * k)).toInt ∧ (w (12 + 3 * k)).toInt ≤ 1799 ∧ 0 ≤ (w (13 + 3 * k)).toInt ∧ (w (13 + 3 * k)).toInt ≤ 1000000) ∧
  (∀ k, k + 1 < cS w → (w (12 + 3 * k)).toInt ≤ (w (11 + 3 * (k + 1))).toInt) ∧
  (∀ k, k < cP w → (0 ≤ (w (35 + 8 * k)).toInt ∧ (w (35 + 8 * k)).toInt ≤ 1799) ∧ (0 ≤ (w (36 + 8 * k)).toInt ∧ (w (36 + 8 * k)).toInt ≤ 1799) ∧
    ((w (37 + 8 * k) = -1 ∧ w (38 + 8 * k) = 0 ∧ w (39 + 8 * k) = 0 ∧ w (40 + 8 * k) = 0) ∨ ((w (36 + 8 * k)).toInt < (w (37 + 8 * k)).toInt ∧ (w (37 + 8 * k)).toInt ≤ 1799)) ∧
    (0 ≤ (w (38 + 8 * k)).toInt ∧ (w (38 + 8 * k)).toInt ≤ 1000) ∧ (w (39 + 8 * k) = 0 ∨ w (39 + 8 * k) = 1) ∧ (0 ≤ (w (40 + 8 * k)).toInt ∧ (w (40 + 8 * k)).toInt ≤ 1000) ∧ (0 ≤ (w (41 + 8 * k)).toInt ∧ (w (41 + 8 * k)).toInt ≤ 1799) ∧
    (w (42 + 8 * k) = -1 ∨ ((w (35 + 8 * k)).toInt < (w (42 + 8 * k)).toInt ∧ (w (42 + 8 * k)).toInt ≤ 1799))) ∧
  (∀ k, k + 1 < cP w → ¬ w (37 + 8 * k) = -1) ∧
  (∀ i, i < cY w → (1 ≤ (w (67 + 2 * i)).toInt ∧ (w (67 + 2 * i)).toInt ≤ 119) ∧ 0 ≤ (w (68 + 2 * i)).toInt ∧ (w (68 + 2 * i)).toInt ≤ 100000) ∧
  (∀ i j, i < cY w → j < cY w → (w (67 + 2 * i)).toInt = (w (67 + 2 * j)).toInt → i = j) ∧
  (∀ i j, i < cY w → j < cY w → (w (67 + 2 * i)).toInt < (w (67 + 2 * j)).toInt → (w (68 + 2 * j)).toInt ≤ (w (68 + 2 * i)).toInt)
theorem Vld.c {w : Nat → Int32} (h : Vld w) : Cnt w := h.1
/-- the whole behind the month m, by what it was ahead of it -/
def stW (w : Nat → Int32) (m : Nat) (v : Int64) : Int64 := if w 1 = -1 then v else if nI m < w 1 then v else if nI m ≤ w 1 then v else if (nI m - w 1) - (nI m - w 1) / 12 * 12 = 0 then v * (1000 + w 9).toInt64 / 1000 else v
def vW (w : Nat → Int32) : Nat → Int64
  | 0 => (first w).toInt64
  | m + 1 => stW w m (vW w m)
def whl (w : Nat → Int32) (m : Nat) : Int64 := if w 1 = -1 then 0 else if nI m < w 1 then 0 else vW w (m + 1)
def dsc (w : Nat → Int32) : Nat → Int64
  | 0 => 1000000000
  | k + 1 => dsc w k * 12000 / (12000 + (w 10).toInt64)
def CaOK (iv : Nat → Int32) (w : Nat → Int32) (la : Nat → Nat → Int64) : Prop := iv 6 = 0 ∨ (iv 6 = 1 ∧ ∀ j, j < 1800 → la 0 j = whl w j ∧ la 1 j = dsc w j)
/-- rows may have been laid; nothing else is changed -/
def LE (w : Nat → Int32) (iv : Nat → Int32) (la : Nat → Nat → Int64) (iv' : Nat → Int32) (la' : Nat → Nat → Int64) : Prop := ((∀ k, k ≠ 6 → iv' k = iv k) ∧ (iv 6 = 1 → iv' 6 = 1)) ∧ (∀ j, 2 ≤ j → la' j = la j) ∧ CaOK iv' w la'
/-- rows are laid -/
def LD (w : Nat → Int32) (iv : Nat → Int32) (la : Nat → Nat → Int64) : Prop := iv 6 = 1 ∧ ∀ j, j < 1800 → la 0 j = whl w j ∧ la 1 j = dsc w j
theorem LE.rf {w iv : Nat → Int32} {la : Nat → Nat → Int64} (h : CaOK iv w la) : LE w iv la iv la := ⟨⟨fun _ _ => rfl, id⟩, fun _ _ => rfl, h⟩
theorem LE.tr {w iv iv1 iv2 : Nat → Int32} {la la1 la2 : Nat → Nat → Int64} (h : LE w iv la iv1 la1) (h2 : LE w iv1 la1 iv2 la2) : LE w iv la iv2 la2 := ⟨⟨fun k hk => (h2.1.1 k hk).trans (h.1.1 k hk), fun q => h2.1.2 (h.1.2 q)⟩, fun j hj => (h2.2.1 j hj).trans (h.2.1 j hj), h2.2.2⟩
theorem LD.ca {w iv : Nat → Int32} {la : Nat → Nat → Int64} (h : LD w iv la) : CaOK iv w la := Or.inr h
theorem Vld.r10 {w : Nat → Int32} (h : Vld w) : ¬ (12000 : Int64) + (w 10).toInt64 = 0 := by
  intro q
  have h1 := congrArg Int64.toInt q
  obtain ⟨a, b⟩ := h.2.2.2.2.2.2.2.2.1
  rw [Int64.toInt_add, Int32.toInt_toInt64, show (12000 : Int64).toInt = 12000 from rfl, show (0 : Int64).toInt = 0 from rfl, Int.bmod_eq_of_le (by omega) (by omega)] at h1
  omega
section MB
variable {mo : Nat} {iv : Nat → Int32} {ia : Nat → Nat → Int32} {la : Nat → Nat → Int64} {g : pz_H}
theorem nI_1800 {i : Nat} (h : i < 1800) : ¬ (1800 : Int32) ≤ nI i := by
  rw [show (1800 : Int32) = nI 1800 from rfl, nI_leI (by decide) (by omega)]; omega
theorem m_lays2 (hv : Vld (ia 0)) (iv : Nat → Int32) : ∀ (N i : Nat) (la : Nat → Nat → Int64), i ≤ 1800 → 1800 - i < N → (∀ j, j < i → la 1 j = dsc (ia 0) j) → ∃ la', fX10_laysWholes_132 N (MH mo iv ia la g) mo (dsc (ia 0) i) (nI i) = some (MH mo iv ia la' g) ∧ (∀ j, j ≠ 1 → la' j = la j) ∧ ∀ j, j < 1800 → la' 1 j = dsc (ia 0) j := by
  intro N
  induction N with
  | zero => intro i la _ h; omega
  | succ N ih =>
    intro i la hi hN hla
    show ∃ la', fX10_laysWholes_132b _ _ _ _ _ = _ ∧ _
    unfold fX10_laysWholes_132b
    by_cases h : i = 1800
    · subst h
      rw [if_pos (by decide)]
      exact ⟨la, rfl, fun _ _ => rfl, hla⟩
    · rw [if_neg (nI_1800 (by omega))]
      simp only [mh_is, mh_g0, mh_g4, mh_g6, mh_g12, mh_g14, mh_g15, mh_g16, mh_g17, mh_g18, mh_g19, mh_g20, mh_r1, mh_r2, mh_r3, mh_r5, mh_r7, mh_r8, mh_r9, mh_r10, mh_r11, mh_r13, mh_r21, mh_s0, mh_s4, mh_s6, mh_s12, mh_s14, mh_s15, mh_s16, mh_s17, mh_s18, mh_s19, mh_s20, mh_w0, mh_w1, mh_w2, mh_w3, mh_w4, mh_w5, mh_w6, mh_w7, mh_w8, mh_w9, mh_w10, bs, mh_u1 (i := nI i) rfl (show i < 1800 by omega), hv.r10, ↓reduceIte, nI_1]
      have hd : dsc (ia 0) (i + 1) = dsc (ia 0) i * 12000 / (12000 + (ia 0 10).toInt64) := rfl
      rw [← hd]
      obtain ⟨la', h1, h2, h3⟩ := ih (i + 1) (va_up la 1 (vp_updL (la 1) i (dsc (ia 0) i))) (by omega) (by omega) (fun j hj => by
        show vp_updL (la 1) i (dsc (ia 0) i) j = _
        by_cases hji : j = i
        · subst hji; rw [pk_uLs]
        · rw [pk_uLn hji]; exact hla j (by omega))
      refine ⟨la', h1, fun j hj => ?_, h3⟩
      rw [h2 j hj]; unfold va_up; rw [if_neg hj]
theorem m_lays1 (hv : Vld (ia 0)) (iv : Nat → Int32) : ∀ (N i : Nat) (la : Nat → Nat → Int64), i ≤ 1800 → 1800 - i < N → (∀ j, j < i → la 0 j = whl (ia 0) j) → ∃ la', fX10_laysWholes_21 N (MH mo iv ia la g) mo (vW (ia 0) i) (nI i) = some (MH mo iv ia la' g) ∧ (∀ j, 2 ≤ j → la' j = la j) ∧ ∀ j, j < 1800 → la' 0 j = whl (ia 0) j ∧ la' 1 j = dsc (ia 0) j := by
  intro N
  induction N with
  | zero => intro i la _ h; omega
  | succ N ih =>
    intro i la hi hN hla
    show ∃ la', fX10_laysWholes_21b _ _ _ _ _ = _ ∧ _
    unfold fX10_laysWholes_21b
    by_cases h : i = 1800
    · subst h
      rw [if_pos (by decide)]
      obtain ⟨la', h1, h2, h3⟩ := m_lays2 hv iv pz_F 0 la (by omega) (by unfold pz_F; omega) (fun j hj => by omega)
      exact ⟨la', h1, fun j hj => h2 j (by omega), fun j hj => ⟨by rw [h2 0 (by omega)]; exact hla j hj, h3 j hj⟩⟩
    · rw [if_neg (nI_1800 (by omega))]
      have key : ∀ x v : Int64, x = whl (ia 0) i → v = vW (ia 0) (i + 1) → ∃ la', fX10_laysWholes_118 (fX10_laysWholes_21 N) (MH mo iv ia la g) mo v (nI i) x (nI i) (mo + 4) = some (MH mo iv ia la' g) ∧ (∀ j, 2 ≤ j → la' j = la j) ∧ ∀ j, j < 1800 → la' 0 j = whl (ia 0) j ∧ la' 1 j = dsc (ia 0) j := by
        intro x v hx hv2
        subst hv2
        unfold fX10_laysWholes_118
        simp only [mh_u0 (i := nI i) rfl (show i < 1800 by omega), bs, nI_1]
        obtain ⟨la', h1, h2, h3⟩ := ih (i + 1) (va_up la 0 (vp_updL (la 0) i x)) (by omega) (by omega) (fun j hj => by
          show vp_updL (la 0) i x j = _
          by_cases hji : j = i
          · subst hji; rw [pk_uLs]; exact hx
          · rw [pk_uLn hji]; exact hla j (by omega))
        refine ⟨la', h1, fun j hj => ?_, h3⟩
        rw [h2 j hj]; unfold va_up; rw [if_neg (by omega)]
      have hs : vW (ia 0) (i + 1) = stW (ia 0) i (vW (ia 0) i) := rfl
      simp only [mh_is, mh_g0, mh_g4, mh_g6, mh_g12, mh_g14, mh_g15, mh_g16, mh_g17, mh_g18, mh_g19, mh_g20, mh_r1, mh_r2, mh_r3, mh_r5, mh_r7, mh_r8, mh_r9, mh_r10, mh_r11, mh_r13, mh_r21, mh_s0, mh_s4, mh_s6, mh_s12, mh_s14, mh_s15, mh_s16, mh_s17, mh_s18, mh_s19, mh_s20, mh_w0, mh_w1, mh_w2, mh_w3, mh_w4, mh_w5, mh_w6, mh_w7, mh_w8, mh_w9, mh_w10, bs, fX10_laysWholes_52, fX10_laysWholes_53, fX10_laysWholes_103, show ¬ (1 : Int32) = 0 by decide, ↓reduceIte]
      by_cases c1 : ia 0 1 = -1
      · simp only [c1, ↓reduceIte]
        exact key _ _ (by unfold whl; rw [hs]; unfold stW; simp only [c1, ↓reduceIte]) (by rw [hs]; unfold stW; simp only [c1, ↓reduceIte])
      · by_cases c2 : nI i < ia 0 1
        · simp only [c1, c2, ↓reduceIte]
          exact key _ _ (by unfold whl; rw [hs]; unfold stW; simp only [c1, c2, ↓reduceIte]) (by rw [hs]; unfold stW; simp only [c1, c2, ↓reduceIte])
        · by_cases c3 : nI i ≤ ia 0 1
          · simp only [c1, c2, c3, ↓reduceIte]
            exact key _ _ (by unfold whl; rw [hs]; unfold stW; simp only [c1, c2, c3, ↓reduceIte]) (by rw [hs]; unfold stW; simp only [c1, c2, c3, ↓reduceIte])
          · by_cases c4 : (nI i - ia 0 1) - (nI i - ia 0 1) / 12 * 12 = 0
            · simp only [c1, c2, c3, c4, ↓reduceIte]
              exact key _ _ (by unfold whl; rw [hs]; unfold stW; simp only [c1, c2, c3, c4, ↓reduceIte]) (by rw [hs]; unfold stW; simp only [c1, c2, c3, c4, ↓reduceIte])
            · simp only [c1, c2, c3, c4, ↓reduceIte]
              exact key _ _ (by unfold whl; rw [hs]; unfold stW; simp only [c1, c2, c3, c4, ↓reduceIte]) (by rw [hs]; unfold stW; simp only [c1, c2, c3, c4, ↓reduceIte])
theorem m_lays (hv : Vld (ia 0)) (hca : CaOK iv (ia 0) la) : ∃ iv' la', fnX10_laysWholes (MH mo iv ia la g) mo = some (MH mo iv' ia la' g) ∧ LE (ia 0) iv la iv' la' ∧ LD (ia 0) iv' la' := by
  unfold fnX10_laysWholes
  simp only [mh_is, mh_g0, mh_g4, mh_g6, mh_g12, mh_g14, mh_g15, mh_g16, mh_g17, mh_g18, mh_g19, mh_g20, mh_r1, mh_r2, mh_r3, mh_r5, mh_r7, mh_r8, mh_r9, mh_r10, mh_r11, mh_r13, mh_r21, mh_s0, mh_s4, mh_s6, mh_s12, mh_s14, mh_s15, mh_s16, mh_s17, mh_s18, mh_s19, mh_s20, mh_w0, mh_w1, mh_w2, mh_w3, mh_w4, mh_w5, mh_w6, mh_w7, mh_w8, mh_w9, mh_w10, bs]
  rcases hca with h | ⟨h, h2⟩
  · rw [if_pos h]
    simp only [m_firstPaid hv.c, bs]
    obtain ⟨la', h1, h2, h3⟩ := m_lays1 (mo := mo) (g := g) hv (va_up iv 6 1) pz_F 0 la (by omega) (by unfold pz_F; omega) (fun j hj => by omega)
    refine ⟨_, la', h1, ⟨⟨fun k hk => ?_, fun _ => rfl⟩, h2, Or.inr ⟨rfl, h3⟩⟩, rfl, h3⟩
    unfold va_up; rw [if_neg hk]
  · rw [if_neg (by rw [h]; decide)]
    exact ⟨iv, la, rfl, LE.rf (Or.inr ⟨h, h2⟩), h, h2⟩
end MB
