/-! ===== annuities, own, payments: the reference ===== -/
def smA (F : Nat → Int64) (s : Nat) : Nat → Int64
  | 0 => 0
  | n + 1 => smA F s n + F (s + n)
theorem smA_congr {F G : Nat → Int64} {s : Nat} : ∀ n, (∀ m, s ≤ m → m < s + n → F m = G m) → smA F s n = smA G s n
  | 0, _ => rfl
  | n + 1, h => by
    show smA F s n + F (s + n) = smA G s n + G (s + n)
    rw [smA_congr n (fun m h1 h2 => h m h1 (by omega)), h (s + n) (by omega) (by omega)]
def rT (w : Nat → Int32) : Nat := (w 1).toNatClampNeg
def bT (w : Nat → Int32) (k : Nat) : Nat := (beg w k).toNatClampNeg
theorem nI_clampI {x : Int32} (h : 0 ≤ x.toInt) : x = nI x.toNatClampNeg ∧ (x.toNatClampNeg : Int) = x.toInt := by
  have h1 := nI_of_toInt h
  have h2 := i32_hi x
  have h3 : x.toNatClampNeg = x.toInt.toNat := by
    conv => lhs; rw [h1]
    exact nI_clamp (by omega)
  rw [h3]
  exact ⟨h1, by omega⟩
theorem Vld.r {w : Nat → Int32} (hv : Vld w) (h : ¬ w 1 = -1) : w 1 = nI (rT w) ∧ rT w < 1800 ∧ (rT w : Int) = (w 1).toInt ∧ (w 0).toInt ≤ (w 1).toInt := by
  rcases hv.2.2.1 with q | ⟨q1, q2, -⟩
  · exact absurd q h
  · have h0 := hv.2.1.1
    obtain ⟨a, b⟩ := nI_clampI (x := w 1) (by omega)
    exact ⟨a, by unfold rT; omega, b, q1⟩
theorem Vld.b {w : Nat → Int32} (hv : Vld w) (h : ¬ w 1 = -1) {k : Nat} (hk : k < cP w) : beg w k = nI (bT w k) ∧ bT w k < 1800 ∧ rT w ≤ bT w k := by
  obtain ⟨a1, a2, a3, a4⟩ := hv.r h
  obtain ⟨-, -, -, -, -, -, ⟨c1, c2⟩, -⟩ := hv.2.2.2.2.2.2.2.2.2.2.2.1 k hk
  have h0 := hv.2.1.1
  have key : (w 1).toInt ≤ (beg w k).toInt ∧ (beg w k).toInt ≤ 1799 := by
    unfold beg
    rw [if_neg h]
    split
    · rename_i q; rw [i32_le] at q; omega
    · omega
  obtain ⟨b1, b2⟩ := nI_clampI (x := beg w k) (by omega)
  exact ⟨b1, by unfold bT; omega, by unfold bT; omega⟩
theorem Vld.p4 {w : Nat → Int32} (hv : Vld w) {k : Nat} (hk : k < cP w) : k < 4 := by have := hv.1.2.1.2; omega
/-- nothing but laid rows and odds changed -/
def LO (w : Nat → Int32) (iv : Nat → Int32) (la : Nat → Nat → Int64) (iv' : Nat → Int32) (la' : Nat → Nat → Int64) : Prop := ((∀ k, k ≠ 6 → iv' k = iv k) ∧ (iv 6 = 1 → iv' 6 = 1)) ∧ la' 4 = la 4 ∧ CaOK iv' w la'
theorem LE.lo {w iv iv' : Nat → Int32} {la la' : Nat → Nat → Int64} (h : LE w iv la iv' la') : LO w iv la iv' la' := ⟨h.1, h.2.1 4 (by decide), h.2.2⟩
theorem LO.tr {w iv iv1 iv2 : Nat → Int32} {la la1 la2 : Nat → Nat → Int64} (h : LO w iv la iv1 la1) (h2 : LO w iv1 la1 iv2 la2) : LO w iv la iv2 la2 := ⟨⟨fun k hk => (h2.1.1 k hk).trans (h.1.1 k hk), fun q => h2.1.2 (h.1.2 q)⟩, h2.2.1.trans h.2.1, h2.2.2⟩
theorem CaOK.od {w iv : Nat → Int32} {la la' : Nat → Nat → Int64} {j : Nat} (hj : 2 ≤ j) (h : CaOK iv w la) (hq : ∀ q, q ≠ j → la' q = la q) : CaOK iv w la' := by
  rcases h with h | ⟨h, h2⟩
  · exact Or.inl h
  · exact Or.inr ⟨h, fun i hi => by rw [hq 0 (by omega), hq 1 (by omega)]; exact h2 i hi⟩
theorem LO.od {w iv : Nat → Int32} {la la' : Nat → Nat → Int64} {j : Nat} (hj : j = 2 ∨ j = 3) (h : CaOK iv w la) (hq : ∀ q, q ≠ j → la' q = la q) : LO w iv la iv la' := ⟨⟨fun _ _ => rfl, id⟩, hq 4 (by omega), h.od (by omega) hq⟩
def ann (w : Nat → Int32) (b : Int32) (t s : Nat) : Int64 := smA (fun m => dsc w (m - t) * od w b (nI t) m / 1000000000) s (1800 - s)
def ownB (sh me sp : Int64) : Int64 := if sp = 0 then 0 else if sh * me / 1000000000 * 1000000000 / sp ≤ 1000000000 then sh * me / 1000000000 * 1000000000 / sp else 1000000000
def own (w : Nat → Int32) (k : Nat) : Int64 := if w 1 = -1 then 0 else if w (37 + 8 * k) = -1 then 0 else if w 1 < w 0 then 0 else if w 1 < w (35 + 8 * k) then 0 else ownB (shr w k (rT w)) (ann w (w 0) (rT w) (rT w)) (ann w (w (35 + 8 * k)) (rT w) (bT w k))
section MD
variable {mo : Nat} {iv : Nat → Int32} {ia : Nat → Nat → Int32} {la : Nat → Nat → Int64} {g : pz_H}
theorem m_ann2_loop {t s : Nat} (hld : LD (ia 0) iv la) (hts : t ≤ s) (hs : s ≤ 1800) : ∀ (N i : Nat), s + i ≤ 1800 → 1800 - (s + i) < N → fX10_annuityBy_10 N (MH mo iv ia la g) mo (mo + 6) (nI t) (smA (fun m => dsc (ia 0) (m - t) * la 2 m / 1000000000) s i) (nI (s + i)) = some (smA (fun m => dsc (ia 0) (m - t) * la 2 m / 1000000000) s (1800 - s), MH mo iv ia la g) := by
  intro N
  induction N with
  | zero => intro i _ h; omega
  | succ N ih =>
    intro i hi hN
    show fX10_annuityBy_10b _ _ _ _ _ _ _ = _
    unfold fX10_annuityBy_10b
    by_cases h : s + i = 1800
    · rw [h, if_pos (by decide), show 1800 - s = i by omega]
    · rw [if_neg (nI_1800 (by omega))]
      have e : nI (s + i) - nI t = nI (s + i - t) := pk_sub (by omega)
      simp only [mh_is, mh_g0, mh_g4, mh_g6, mh_g12, mh_g14, mh_g15, mh_g16, mh_g17, mh_g18, mh_g19, mh_g20, mh_r1, mh_r2, mh_r3, mh_r5, mh_r7, mh_r8, mh_r9, mh_r10, mh_r11, mh_r13, mh_r21, mh_s0, mh_s4, mh_s6, mh_s12, mh_s14, mh_s15, mh_s16, mh_s17, mh_s18, mh_s19, mh_s20, mh_w0, mh_w1, mh_w2, mh_w3, mh_w4, mh_w5, mh_w6, mh_w7, mh_w8, mh_w9, mh_w10, bs, mh_l1 e (show s + i - t < 1800 by omega), mh_l2 (i := nI (s + i)) rfl (show s + i < 1800 by omega), (hld.2 (s + i - t) (by omega)).2, nI_1]
      exact ih (i + 1) (by omega) (by omega)
theorem m_ann2 (hv : Vld (ia 0)) (hca : CaOK iv (ia 0) la) {t s : Nat} {p q : Int32} (hp : p = nI t) (hq : q = nI s) (hts : t ≤ s) (hs : s < 1800) : ∃ iv' la', fnX10_annuityBy (MH mo iv ia la g) mo (mo + 6) p q = some (smA (fun m => dsc (ia 0) (m - t) * la 2 m / 1000000000) s (1800 - s), MH mo iv' ia la' g) ∧ LE (ia 0) iv la iv' la' ∧ LD (ia 0) iv' la' := by
  obtain ⟨iv', la', h1, h2, h3⟩ := m_lays (mo := mo) (g := g) hv hca
  refine ⟨iv', la', ?_, h2, h3⟩
  unfold fnX10_annuityBy
  simp only [mh_is, mh_g0, mh_g4, mh_g6, mh_g12, mh_g14, mh_g15, mh_g16, mh_g17, mh_g18, mh_g19, mh_g20, mh_r1, mh_r2, mh_r3, mh_r5, mh_r7, mh_r8, mh_r9, mh_r10, mh_r11, mh_r13, mh_r21, mh_s0, mh_s4, mh_s6, mh_s12, mh_s14, mh_s15, mh_s16, mh_s17, mh_s18, mh_s19, mh_s20, mh_w0, mh_w1, mh_w2, mh_w3, mh_w4, mh_w5, mh_w6, mh_w7, mh_w8, mh_w9, mh_w10, bs, h1]
  have key := m_ann2_loop (mo := mo) (g := g) (t := t) (s := s) h3 hts (by omega) pz_F 0 (by omega) (by unfold pz_F; omega)
  rw [h2.2.1 2 (by decide)] at key
  rw [hp, hq]
  exact key
theorem m_ann3_loop {t s : Nat} (hld : LD (ia 0) iv la) (hts : t ≤ s) (hs : s ≤ 1800) : ∀ (N i : Nat), s + i ≤ 1800 → 1800 - (s + i) < N → fX10_annuityBy_10 N (MH mo iv ia la g) mo (mo + 7) (nI t) (smA (fun m => dsc (ia 0) (m - t) * la 3 m / 1000000000) s i) (nI (s + i)) = some (smA (fun m => dsc (ia 0) (m - t) * la 3 m / 1000000000) s (1800 - s), MH mo iv ia la g) := by
  intro N
  induction N with
  | zero => intro i _ h; omega
  | succ N ih =>
    intro i hi hN
    show fX10_annuityBy_10b _ _ _ _ _ _ _ = _
    unfold fX10_annuityBy_10b
    by_cases h : s + i = 1800
    · rw [h, if_pos (by decide), show 1800 - s = i by omega]
    · rw [if_neg (nI_1800 (by omega))]
      have e : nI (s + i) - nI t = nI (s + i - t) := pk_sub (by omega)
      simp only [mh_is, mh_g0, mh_g4, mh_g6, mh_g12, mh_g14, mh_g15, mh_g16, mh_g17, mh_g18, mh_g19, mh_g20, mh_r1, mh_r2, mh_r3, mh_r5, mh_r7, mh_r8, mh_r9, mh_r10, mh_r11, mh_r13, mh_r21, mh_s0, mh_s4, mh_s6, mh_s12, mh_s14, mh_s15, mh_s16, mh_s17, mh_s18, mh_s19, mh_s20, mh_w0, mh_w1, mh_w2, mh_w3, mh_w4, mh_w5, mh_w6, mh_w7, mh_w8, mh_w9, mh_w10, bs, mh_l1 e (show s + i - t < 1800 by omega), mh_l3 (i := nI (s + i)) rfl (show s + i < 1800 by omega), (hld.2 (s + i - t) (by omega)).2, nI_1]
      exact ih (i + 1) (by omega) (by omega)
theorem m_ann3 (hv : Vld (ia 0)) (hca : CaOK iv (ia 0) la) {t s : Nat} {p q : Int32} (hp : p = nI t) (hq : q = nI s) (hts : t ≤ s) (hs : s < 1800) : ∃ iv' la', fnX10_annuityBy (MH mo iv ia la g) mo (mo + 7) p q = some (smA (fun m => dsc (ia 0) (m - t) * la 3 m / 1000000000) s (1800 - s), MH mo iv' ia la' g) ∧ LE (ia 0) iv la iv' la' ∧ LD (ia 0) iv' la' := by
  obtain ⟨iv', la', h1, h2, h3⟩ := m_lays (mo := mo) (g := g) hv hca
  refine ⟨iv', la', ?_, h2, h3⟩
  unfold fnX10_annuityBy
  simp only [mh_is, mh_g0, mh_g4, mh_g6, mh_g12, mh_g14, mh_g15, mh_g16, mh_g17, mh_g18, mh_g19, mh_g20, mh_r1, mh_r2, mh_r3, mh_r5, mh_r7, mh_r8, mh_r9, mh_r10, mh_r11, mh_r13, mh_r21, mh_s0, mh_s4, mh_s6, mh_s12, mh_s14, mh_s15, mh_s16, mh_s17, mh_s18, mh_s19, mh_s20, mh_w0, mh_w1, mh_w2, mh_w3, mh_w4, mh_w5, mh_w6, mh_w7, mh_w8, mh_w9, mh_w10, bs, h1]
  have key := m_ann3_loop (mo := mo) (g := g) (t := t) (s := s) h3 hts (by omega) pz_F 0 (by omega) (by unfold pz_F; omega)
  rw [h2.2.1 3 (by decide)] at key
  rw [hp, hq]
  exact key
theorem m_ownBy (hv : Vld (ia 0)) (hca : CaOK iv (ia 0) la) (h1 : ¬ ia 0 1 = -1) {k : Nat} {p : Int32} {me sp : Int64} (hp : p = nI k) (hk : k < 4) : ∃ iv' la', fnX10_ownBy (MH mo iv ia la g) mo p me sp = some (ownB (shr (ia 0) k (rT (ia 0))) me sp, MH mo iv' ia la' g) ∧ LE (ia 0) iv la iv' la' := by
  obtain ⟨r1, r2, -⟩ := hv.r h1
  unfold fnX10_ownBy fX10_ownBy_56 ownB
  rw [mh_is, bs]
  by_cases c : sp = 0
  · rw [if_pos (lg_0.mpr c), if_pos c]
    exact ⟨iv, la, rfl, LE.rf hca⟩
  · obtain ⟨iv', la', h2, h3⟩ := m_shareIn (mo := mo) (g := g) hv hca hp hk r1 r2
    rw [if_neg (fun q => c (lg_0.mp q)), if_neg c, mh_r1, bs, mh_w1, bs, h2, bs, if_neg c]
    generalize shr (ia 0) k (rT (ia 0)) * me / 1000000000 * 1000000000 / sp = X
    refine ⟨iv', la', ?_, h3⟩
    by_cases c2 : X ≤ 1000000000
    · rw [if_pos (lg_le.mpr c2), if_pos c2]
    · rw [if_neg (fun q => c2 (lg_le.mp q)), if_neg c2]
theorem m_ownOf (hv : Vld (ia 0)) (hca : CaOK iv (ia 0) la) {k : Nat} {p : Int32} (hp : p = nI k) (hk : k < cP (ia 0)) : ∃ iv' la', fnX10_ownOf (MH mo iv ia la g) mo p = some (own (ia 0) k, MH mo iv' ia la' g) ∧ LO (ia 0) iv la iv' la' := by
  have hk4 := hv.p4 hk
  unfold fnX10_ownOf fX10_ownOf_29 own
  simp only [mh_is, mh_g0, mh_g4, mh_g6, mh_g12, mh_g14, mh_g15, mh_g16, mh_g17, mh_g18, mh_g19, mh_g20, mh_r1, mh_r2, mh_r3, mh_r5, mh_r7, mh_r8, mh_r9, mh_r10, mh_r11, mh_r13, mh_r21, mh_s0, mh_s4, mh_s6, mh_s12, mh_s14, mh_s15, mh_s16, mh_s17, mh_s18, mh_s19, mh_s20, mh_w0, mh_w1, mh_w2, mh_w3, mh_w4, mh_w5, mh_w6, mh_w7, mh_w8, mh_w9, mh_w10, bs, m_isParted hp hk4, m_areBorn hp hk4]
  by_cases c1 : ia 0 1 = -1
  · simp only [c1, ↓reduceIte]; exact ⟨iv, la, rfl, (LE.rf hca).lo⟩
  simp only [c1, ↓reduceIte]
  by_cases c2 : ia 0 (37 + 8 * k) = -1
  · simp only [c2, ↓reduceIte]; exact ⟨iv, la, rfl, (LE.rf hca).lo⟩
  simp only [c2, ↓reduceIte, show ¬ (1 : Int32) = 0 by decide]
  by_cases c3 : ia 0 1 < ia 0 0
  · simp only [c3, ↓reduceIte]; exact ⟨iv, la, rfl, (LE.rf hca).lo⟩
  simp only [c3, ↓reduceIte]
  by_cases c4 : ia 0 1 < ia 0 (35 + 8 * k)
  · simp only [c4, ↓reduceIte]; exact ⟨iv, la, rfl, (LE.rf hca).lo⟩
  simp only [c4, ↓reduceIte, show ¬ (1 : Int32) = 0 by decide]
  obtain ⟨r1, r2, r3, r4⟩ := hv.r c1
  obtain ⟨b1, b2, b3⟩ := hv.b c1 hk
  obtain ⟨⟨s1, s2⟩, -⟩ := hv.2.2.2.2.2.2.2.2.2.2.2.1 k hk
  rw [i32_lt] at c3 c4
  obtain ⟨la1, e1, f1, v1⟩ := m_odds2 (mo := mo) (iv := iv) (la := la) (g := g) (t := rT (ia 0)) hv r1 r2 (b := ia 0 0) (who := 10) (fun _ => m_bornM) hv.2.1.1 (by omega)
  have ca1 := hca.od (by decide) f1
  obtain ⟨la2, e2, f2, v2⟩ := m_odds3 (mo := mo) (iv := iv) (la := la1) (g := g) (t := rT (ia 0)) hv r1 r2 (b := ia 0 (35 + 8 * k)) (who := p) (fun _ => m_bornS hp hk4) s1 (by omega)
  have ca2 := ca1.od (by decide) f2
  obtain ⟨iv3, la3, e3, f3, -⟩ := m_ann2 (mo := mo) (g := g) hv ca2 r1 r1 (Nat.le_refl _) r2
  obtain ⟨iv4, la4, e4, f4, -⟩ := m_ann3 (mo := mo) (g := g) hv f3.2.2 r1 b1 b3 b2
  obtain ⟨iv5, la5, e5, f5⟩ := m_ownBy (mo := mo) (g := g) hv f4.2.2 c1 (me := ann (ia 0) (ia 0 0) (rT (ia 0)) (rT (ia 0))) (sp := ann (ia 0) (ia 0 (35 + 8 * k)) (rT (ia 0)) (bT (ia 0) k)) hp hk4
  have g2 : smA (fun m => dsc (ia 0) (m - rT (ia 0)) * la2 2 m / 1000000000) (rT (ia 0)) (1800 - rT (ia 0)) = ann (ia 0) (ia 0 0) (rT (ia 0)) (rT (ia 0)) := by
    unfold ann
    refine smA_congr _ (fun m h1 h2 => ?_)
    rw [f2 2 (by decide), v1 m h1 (by omega)]
  have g3 : smA (fun m => dsc (ia 0) (m - rT (ia 0)) * la3 3 m / 1000000000) (bT (ia 0) k) (1800 - bT (ia 0) k) = ann (ia 0) (ia 0 (35 + 8 * k)) (rT (ia 0)) (bT (ia 0) k) := by
    unfold ann
    refine smA_congr _ (fun m h1 h2 => ?_)
    rw [f3.2.1 3 (by decide), v2 m (by omega) (by omega)]
  rw [g2] at e3
  rw [g3] at e4
  simp only [mh_is, mh_g0, mh_g4, mh_g6, mh_g12, mh_g14, mh_g15, mh_g16, mh_g17, mh_g18, mh_g19, mh_g20, mh_r1, mh_r2, mh_r3, mh_r5, mh_r7, mh_r8, mh_r9, mh_r10, mh_r11, mh_r13, mh_r21, mh_s0, mh_s4, mh_s6, mh_s12, mh_s14, mh_s15, mh_s16, mh_s17, mh_s18, mh_s19, mh_s20, mh_w0, mh_w1, mh_w2, mh_w3, mh_w4, mh_w5, mh_w6, mh_w7, mh_w8, mh_w9, mh_w10, bs, e1, e2, e3, e4, e5, m_begin hp hk4]
  exact ⟨iv5, la5, rfl, (LO.od (Or.inl rfl) hca f1).tr ((LO.od (Or.inr rfl) ca1 f2).tr (f3.lo.tr (f4.lo.tr f5.lo)))⟩
/-- the owns are laid -/
def LPo (w : Nat → Int32) (iv : Nat → Int32) (iv' : Nat → Int32) (la' : Nat → Nat → Int64) : Prop := (∀ k, k ≠ 6 → iv' k = iv k) ∧ (∀ k, k < cP w → la' 4 k = own w k) ∧ CaOK iv' w la'
theorem m_laysOwns_loop (hv : Vld (ia 0)) : ∀ (N i : Nat) (iv : Nat → Int32) (la : Nat → Nat → Int64), CaOK iv (ia 0) la → i ≤ cP (ia 0) → cP (ia 0) - i < N → (∀ k, k < i → la 4 k = own (ia 0) k) → ∃ iv' la', fX10_laysOwns_2 N (MH mo iv ia la g) mo (nI i) = some (MH mo iv' ia la' g) ∧ LPo (ia 0) iv iv' la' := by
  intro N
  have hn := hv.1.2.1.1
  have h4 := hv.1.2.1.2
  induction N with
  | zero => intro i _ _ _ _ h; omega
  | succ N ih =>
    intro i iv la hca hi hN hla
    show ∃ iv' la', fX10_laysOwns_2b _ _ _ _ = _ ∧ _
    unfold fX10_laysOwns_2b
    simp only [mh_is, mh_g0, mh_g4, mh_g6, mh_g12, mh_g14, mh_g15, mh_g16, mh_g17, mh_g18, mh_g19, mh_g20, mh_r1, mh_r2, mh_r3, mh_r5, mh_r7, mh_r8, mh_r9, mh_r10, mh_r11, mh_r13, mh_r21, mh_s0, mh_s4, mh_s6, mh_s12, mh_s14, mh_s15, mh_s16, mh_s17, mh_s18, mh_s19, mh_s20, mh_w0, mh_w1, mh_w2, mh_w3, mh_w4, mh_w5, mh_w6, mh_w7, mh_w8, mh_w9, mh_w10, bs]
    rw [hn]
    by_cases h : i = cP (ia 0)
    · rw [← h, if_pos (Int32.le_refl _)]
      exact ⟨iv, la, rfl, fun _ _ => rfl, by rw [← h]; exact hla, hca⟩
    · have hlt : i < cP (ia 0) := by omega
      rw [if_neg (by rw [nI_leI (by omega) (by omega)]; omega)]
      obtain ⟨iv1, la1, e1, f1⟩ := m_ownOf (mo := mo) (g := g) hv hca (p := nI i) rfl hlt
      simp only [e1, bs, mh_u4 (i := nI i) rfl (show i < 4 by omega), nI_1]
      obtain ⟨iv2, la2, e2, f2⟩ := ih (i + 1) iv1 (va_up la1 4 (vp_updL (la1 4) i (own (ia 0) i))) (by
        rcases f1.2.2 with q | ⟨q, q2⟩
        · exact Or.inl q
        · exact Or.inr ⟨q, q2⟩) (by omega) (by omega) (fun k hk => by
        show vp_updL (la1 4) i (own (ia 0) i) k = _
        by_cases hki : k = i
        · subst hki; rw [pk_uLs]
        · rw [pk_uLn hki, f1.2.1]; exact hla k (by omega))
      exact ⟨iv2, la2, e2, fun k hk => (f2.1 k hk).trans (f1.1.1 k hk), f2.2⟩
theorem m_laysOwns (hv : Vld (ia 0)) (hca : CaOK iv (ia 0) la) : ∃ iv' la', fnX10_laysOwns (MH mo iv ia la g) mo = some (MH mo iv' ia la' g) ∧ LPo (ia 0) iv iv' la' := by
  unfold fnX10_laysOwns
  simp only [mh_is, mh_g0, mh_g4, mh_g6, mh_g12, mh_g14, mh_g15, mh_g16, mh_g17, mh_g18, mh_g19, mh_g20, mh_r1, mh_r2, mh_r3, mh_r5, mh_r7, mh_r8, mh_r9, mh_r10, mh_r11, mh_r13, mh_r21, mh_s0, mh_s4, mh_s6, mh_s12, mh_s14, mh_s15, mh_s16, mh_s17, mh_s18, mh_s19, mh_s20, mh_w0, mh_w1, mh_w2, mh_w3, mh_w4, mh_w5, mh_w6, mh_w7, mh_w8, mh_w9, mh_w10, bs]
  exact m_laysOwns_loop hv pz_F 0 iv la hca (by omega) (by have := hv.1.2.1.2; unfold pz_F; omega) (fun k hk => by omega)
/-- what a spouse gets in the month m, by a how -/
def pdB (w : Nat → Int32) (k m : Nat) (how : Int32) : Int64 := if ispd w k (nI m) = 0 then 0 else if how = 1 then own w k else if lvin (w 2) (nI m) = 0 then shr w k m * (w (40 + 8 * k)).toInt64 / 1000 else shr w k m
/-- rows of what is laid, the owns among them -/
def LQ (w : Nat → Int32) (iv : Nat → Int32) (la : Nat → Nat → Int64) : Prop := (∀ k, k < cP w → la 4 k = own w k) ∧ CaOK iv w la
theorem LQ.le {w iv iv' : Nat → Int32} {la la' : Nat → Nat → Int64} (h : LQ w iv la) (h2 : LE w iv la iv' la') : LQ w iv' la' := ⟨fun k hk => by rw [h2.2.1 4 (by decide)]; exact h.1 k hk, h2.2.2⟩
theorem m_paidBy (hv : Vld (ia 0)) (hq : LQ (ia 0) iv la) {k m : Nat} {p q how : Int32} (hp : p = nI k) (hk : k < cP (ia 0)) (hm : q = nI m) (hm2 : m < 1800) : ∃ iv' la', fnX10_paidBy (MH mo iv ia la g) mo p q how = some (pdB (ia 0) k m how, MH mo iv' ia la' g) ∧ LE (ia 0) iv la iv' la' := by
  have hk4 := hv.p4 hk
  unfold fnX10_paidBy fX10_paidBy_64 pdB
  simp only [mh_is, mh_g0, mh_g4, mh_g6, mh_g12, mh_g14, mh_g15, mh_g16, mh_g17, mh_g18, mh_g19, mh_g20, mh_r1, mh_r2, mh_r3, mh_r5, mh_r7, mh_r8, mh_r9, mh_r10, mh_r11, mh_r13, mh_r21, mh_s0, mh_s4, mh_s6, mh_s12, mh_s14, mh_s15, mh_s16, mh_s17, mh_s18, mh_s19, mh_s20, mh_w0, mh_w1, mh_w2, mh_w3, mh_w4, mh_w5, mh_w6, mh_w7, mh_w8, mh_w9, mh_w10, bs, m_isPaid hp hk4, hm]
  by_cases c1 : ispd (ia 0) k (nI m) = 0
  · simp only [c1, ↓reduceIte]; exact ⟨iv, la, rfl, LE.rf hq.2⟩
  simp only [c1, ↓reduceIte]
  by_cases c2 : how = 1
  · simp only [c2, ↓reduceIte, mh_l4 hp hk4, bs, hq.1 k hk]; exact ⟨iv, la, rfl, LE.rf hq.2⟩
  simp only [c2, ↓reduceIte]
  obtain ⟨iv', la', e1, f1⟩ := m_shareIn (mo := mo) (g := g) hv hq.2 hp hk4 (q := nI m) rfl hm2
  simp only [mh_is, mh_g0, mh_g4, mh_g6, mh_g12, mh_g14, mh_g15, mh_g16, mh_g17, mh_g18, mh_g19, mh_g20, mh_r1, mh_r2, mh_r3, mh_r5, mh_r7, mh_r8, mh_r9, mh_r10, mh_r11, mh_r13, mh_r21, mh_s0, mh_s4, mh_s6, mh_s12, mh_s14, mh_s15, mh_s16, mh_s17, mh_s18, mh_s19, mh_s20, mh_w0, mh_w1, mh_w2, mh_w3, mh_w4, mh_w5, mh_w6, mh_w7, mh_w8, mh_w9, mh_w10, bs, e1, m_livesIn, m_its5 hp hk4]
  refine ⟨iv', la', ?_, f1⟩
  split <;> rfl
/-- what is left to the member behind k spouses -/
def pmL (w : Nat → Int32) (m : Nat) : Nat → Int64
  | 0 => whl w m
  | k + 1 => if w (39 + 8 * k) = 0 then pmL w m k - pdB w k m 0 else if w (37 + 8 * k) = -1 then pmL w m k else if nI m < w (37 + 8 * k) then pmL w m k else pmL w m k - shr w k m
def pdM (w : Nat → Int32) (m : Nat) : Int64 := if lvin (w 2) (nI m) = 0 then 0 else pmL w m (cP w)
theorem m_paidMember_loop (hv : Vld (ia 0)) {m : Nat} (hm2 : m < 1800) : ∀ (N i : Nat) (iv : Nat → Int32) (la : Nat → Nat → Int64), LQ (ia 0) iv la → i ≤ cP (ia 0) → cP (ia 0) - i < N → ∃ iv' la', fX10_paidMember_30 N (MH mo iv ia la g) mo (nI m) (pmL (ia 0) m i) (nI i) = some (pmL (ia 0) m (cP (ia 0)), MH mo iv' ia la' g) ∧ LE (ia 0) iv la iv' la' := by
  intro N
  have hn := hv.1.2.1.1
  have h4 := hv.1.2.1.2
  induction N with
  | zero => intro i _ _ _ _ h; omega
  | succ N ih =>
    intro i iv la hq hi hN
    show ∃ iv' la', fX10_paidMember_30b _ _ _ _ _ _ = _ ∧ _
    unfold fX10_paidMember_30b
    simp only [mh_is, mh_g0, mh_g4, mh_g6, mh_g12, mh_g14, mh_g15, mh_g16, mh_g17, mh_g18, mh_g19, mh_g20, mh_r1, mh_r2, mh_r3, mh_r5, mh_r7, mh_r8, mh_r9, mh_r10, mh_r11, mh_r13, mh_r21, mh_s0, mh_s4, mh_s6, mh_s12, mh_s14, mh_s15, mh_s16, mh_s17, mh_s18, mh_s19, mh_s20, mh_w0, mh_w1, mh_w2, mh_w3, mh_w4, mh_w5, mh_w6, mh_w7, mh_w8, mh_w9, mh_w10, bs]
    rw [hn]
    by_cases h : i = cP (ia 0)
    · rw [← h, if_pos (Int32.le_refl _)]
      exact ⟨iv, la, rfl, LE.rf hq.2⟩
    · have hlt : i < cP (ia 0) := by omega
      rw [if_neg (by rw [nI_leI (by omega) (by omega)]; omega)]
      have hs : pmL (ia 0) m (i + 1) = if ia 0 (39 + 8 * i) = 0 then pmL (ia 0) m i - pdB (ia 0) i m 0 else if ia 0 (37 + 8 * i) = -1 then pmL (ia 0) m i else if nI m < ia 0 (37 + 8 * i) then pmL (ia 0) m i else pmL (ia 0) m i - shr (ia 0) i m := rfl
      have go : ∀ (iv1 : Nat → Int32) (la1 : Nat → Nat → Int64) (v : Int64), LE (ia 0) iv la iv1 la1 → v = pmL (ia 0) m (i + 1) → ∃ iv' la', fX10_paidMember_95 (fX10_paidMember_30 N) (MH mo iv1 ia la1 g) mo (nI m) v (nI i) = some (pmL (ia 0) m (cP (ia 0)), MH mo iv' ia la' g) ∧ LE (ia 0) iv la iv' la' := by
        intro iv1 la1 v h1 hvv
        unfold fX10_paidMember_95
        rw [nI_1, hvv]
        obtain ⟨iv2, la2, e2, f2⟩ := ih (i + 1) iv1 la1 (hq.le h1) (by omega) (by omega)
        exact ⟨iv2, la2, e2, h1.tr f2⟩
      simp only [m_its4 (p := nI i) rfl (show i < 4 by omega), m_its2 (p := nI i) rfl (show i < 4 by omega), m_isParted (p := nI i) rfl (show i < 4 by omega), bs]
      by_cases c1 : ia 0 (39 + 8 * i) = 0
      · simp only [c1, ↓reduceIte] at hs ⊢
        obtain ⟨iv1, la1, e1, f1⟩ := m_paidBy (mo := mo) (g := g) hv hq (p := nI i) (how := 0) rfl hlt (q := nI m) rfl hm2
        simp only [e1, bs]
        exact go _ _ _ f1 hs.symm
      · simp only [c1, ↓reduceIte] at hs ⊢
        by_cases c2 : ia 0 (37 + 8 * i) = -1
        · simp only [c2, ↓reduceIte] at hs ⊢
          exact go _ _ _ (LE.rf hq.2) hs.symm
        · simp only [c2, ↓reduceIte, show ¬ (1 : Int32) = 0 by decide] at hs ⊢
          by_cases c3 : nI m < ia 0 (37 + 8 * i)
          · simp only [c3, ↓reduceIte] at hs ⊢
            exact go _ _ _ (LE.rf hq.2) hs.symm
          · simp only [c3, ↓reduceIte] at hs ⊢
            obtain ⟨iv1, la1, e1, f1⟩ := m_shareIn (mo := mo) (g := g) hv hq.2 (p := nI i) rfl (show i < 4 by omega) (q := nI m) rfl hm2
            simp only [e1, bs]
            exact go _ _ _ f1 hs.symm
theorem m_paidMember (hv : Vld (ia 0)) (hq : LQ (ia 0) iv la) {m : Nat} {q : Int32} (hm : q = nI m) (hm2 : m < 1800) : ∃ iv' la', fnX10_paidMember (MH mo iv ia la g) mo q = some (pdM (ia 0) m, MH mo iv' ia la' g) ∧ LE (ia 0) iv la iv' la' := by
  unfold fnX10_paidMember pdM
  simp only [mh_is, mh_g0, mh_g4, mh_g6, mh_g12, mh_g14, mh_g15, mh_g16, mh_g17, mh_g18, mh_g19, mh_g20, mh_r1, mh_r2, mh_r3, mh_r5, mh_r7, mh_r8, mh_r9, mh_r10, mh_r11, mh_r13, mh_r21, mh_s0, mh_s4, mh_s6, mh_s12, mh_s14, mh_s15, mh_s16, mh_s17, mh_s18, mh_s19, mh_s20, mh_w0, mh_w1, mh_w2, mh_w3, mh_w4, mh_w5, mh_w6, mh_w7, mh_w8, mh_w9, mh_w10, bs, m_livesIn, hm]
  by_cases c1 : lvin (ia 0 2) (nI m) = 0
  · simp only [c1, ↓reduceIte]; exact ⟨iv, la, rfl, LE.rf hq.2⟩
  simp only [c1, ↓reduceIte]
  obtain ⟨iv1, la1, e1, f1, d1⟩ := m_lays (mo := mo) (g := g) hv hq.2
  simp only [mh_is, mh_g0, mh_g4, mh_g6, mh_g12, mh_g14, mh_g15, mh_g16, mh_g17, mh_g18, mh_g19, mh_g20, mh_r1, mh_r2, mh_r3, mh_r5, mh_r7, mh_r8, mh_r9, mh_r10, mh_r11, mh_r13, mh_r21, mh_s0, mh_s4, mh_s6, mh_s12, mh_s14, mh_s15, mh_s16, mh_s17, mh_s18, mh_s19, mh_s20, mh_w0, mh_w1, mh_w2, mh_w3, mh_w4, mh_w5, mh_w6, mh_w7, mh_w8, mh_w9, mh_w10, bs, e1, mh_l0 (i := nI m) rfl hm2, (d1.2 m hm2).1]
  obtain ⟨iv2, la2, e2, f2⟩ := m_paidMember_loop (mo := mo) (g := g) hv hm2 pz_F 0 iv1 la1 (hq.le f1) (by omega) (by have := hv.1.2.1.2; unfold pz_F; omega)
  exact ⟨iv2, la2, e2, f1.tr f2⟩
/-- what is left of v behind what k spouses are paid -/
def prL (w : Nat → Int32) (m : Nat) (v : Int64) : Nat → Int64
  | 0 => v
  | k + 1 => prL w m v k - pdB w k m (w (39 + 8 * k))
def pdR (w : Nat → Int32) (m : Nat) : Int64 := prL w m (whl w m - pdM w m) (cP w)
theorem m_paidRest_loop (hv : Vld (ia 0)) {m : Nat} (hm2 : m < 1800) {v : Int64} : ∀ (N i : Nat) (iv : Nat → Int32) (la : Nat → Nat → Int64), LQ (ia 0) iv la → i ≤ cP (ia 0) → cP (ia 0) - i < N → ∃ iv' la', fX10_paidTo_51 N (MH mo iv ia la g) mo (nI m) (prL (ia 0) m v i) (nI i) = some (prL (ia 0) m v (cP (ia 0)), MH mo iv' ia la' g) ∧ LE (ia 0) iv la iv' la' := by
  intro N
  have hn := hv.1.2.1.1
  have h4 := hv.1.2.1.2
  induction N with
  | zero => intro i _ _ _ _ h; omega
  | succ N ih =>
    intro i iv la hq hi hN
    show ∃ iv' la', fX10_paidTo_51b _ _ _ _ _ _ = _ ∧ _
    unfold fX10_paidTo_51b
    simp only [mh_is, mh_g0, mh_g4, mh_g6, mh_g12, mh_g14, mh_g15, mh_g16, mh_g17, mh_g18, mh_g19, mh_g20, mh_r1, mh_r2, mh_r3, mh_r5, mh_r7, mh_r8, mh_r9, mh_r10, mh_r11, mh_r13, mh_r21, mh_s0, mh_s4, mh_s6, mh_s12, mh_s14, mh_s15, mh_s16, mh_s17, mh_s18, mh_s19, mh_s20, mh_w0, mh_w1, mh_w2, mh_w3, mh_w4, mh_w5, mh_w6, mh_w7, mh_w8, mh_w9, mh_w10, bs]
    rw [hn]
    by_cases h : i = cP (ia 0)
    · rw [← h, if_pos (Int32.le_refl _)]
      exact ⟨iv, la, rfl, LE.rf hq.2⟩
    · have hlt : i < cP (ia 0) := by omega
      rw [if_neg (by rw [nI_leI (by omega) (by omega)]; omega)]
      obtain ⟨iv1, la1, e1, f1⟩ := m_paidBy (mo := mo) (g := g) hv hq (p := nI i) (how := ia 0 (39 + 8 * i)) rfl hlt (q := nI m) rfl hm2
      simp only [m_its4 (p := nI i) rfl (show i < 4 by omega), bs, e1, nI_1]
      obtain ⟨iv2, la2, e2, f2⟩ := ih (i + 1) iv1 la1 (hq.le f1) (by omega) (by omega)
      exact ⟨iv2, la2, e2, f1.tr f2⟩
/-- who is paid: a spouse's number, 10, 11 -/
def pdW (w : Nat → Int32) (who m : Nat) : Int64 := if who = 10 then pdM w m else if who = 11 then pdR w m else pdB w who m (w (39 + 8 * who))
def isWho (w : Nat → Int32) (who : Nat) : Prop := who = 10 ∨ who = 11 ∨ who < cP w
theorem m_paidTo (hv : Vld (ia 0)) (hq : LQ (ia 0) iv la) {m who : Nat} {q p : Int32} (hm : q = nI m) (hm2 : m < 1800) (hp : p = nI who) (hw : isWho (ia 0) who) : ∃ iv' la', fnX10_paidTo (MH mo iv ia la g) mo q p = some (pdW (ia 0) who m, MH mo iv' ia la' g) ∧ LE (ia 0) iv la iv' la' := by
  have h4 := hv.1.2.1.2
  unfold fnX10_paidTo pdW
  have e10 : p = 10 ↔ who = 10 := by rw [hp, show (10 : Int32) = nI 10 from rfl, nI_eq (by rcases hw with h | h | h <;> omega) (by decide)]
  have e11 : p = 11 ↔ who = 11 := by rw [hp, show (11 : Int32) = nI 11 from rfl, nI_eq (by rcases hw with h | h | h <;> omega) (by decide)]
  simp only [mh_is, mh_g0, mh_g4, mh_g6, mh_g12, mh_g14, mh_g15, mh_g16, mh_g17, mh_g18, mh_g19, mh_g20, mh_r1, mh_r2, mh_r3, mh_r5, mh_r7, mh_r8, mh_r9, mh_r10, mh_r11, mh_r13, mh_r21, mh_s0, mh_s4, mh_s6, mh_s12, mh_s14, mh_s15, mh_s16, mh_s17, mh_s18, mh_s19, mh_s20, mh_w0, mh_w1, mh_w2, mh_w3, mh_w4, mh_w5, mh_w6, mh_w7, mh_w8, mh_w9, mh_w10, bs, e10, e11]
  by_cases c1 : who = 10
  · simp only [c1, ↓reduceIte]
    obtain ⟨iv1, la1, e1, f1⟩ := m_paidMember (mo := mo) (g := g) hv hq hm hm2
    simp only [e1, bs]; exact ⟨iv1, la1, rfl, f1⟩
  simp only [c1, ↓reduceIte]
  by_cases c2 : who = 11
  · simp only [c2, ↓reduceIte]
    obtain ⟨iv1, la1, e1, f1, d1⟩ := m_lays (mo := mo) (g := g) hv hq.2
    obtain ⟨iv2, la2, e2, f2⟩ := m_paidMember (mo := mo) (g := g) hv (hq.le f1) hm hm2
    obtain ⟨iv3, la3, e3, f3⟩ := m_paidRest_loop (mo := mo) (g := g) hv hm2 (v := whl (ia 0) m - pdM (ia 0) m) pz_F 0 iv2 la2 ((hq.le f1).le f2) (by omega) (by unfold pz_F; omega)
    simp only [mh_is, mh_g0, mh_g4, mh_g6, mh_g12, mh_g14, mh_g15, mh_g16, mh_g17, mh_g18, mh_g19, mh_g20, mh_r1, mh_r2, mh_r3, mh_r5, mh_r7, mh_r8, mh_r9, mh_r10, mh_r11, mh_r13, mh_r21, mh_s0, mh_s4, mh_s6, mh_s12, mh_s14, mh_s15, mh_s16, mh_s17, mh_s18, mh_s19, mh_s20, mh_w0, mh_w1, mh_w2, mh_w3, mh_w4, mh_w5, mh_w6, mh_w7, mh_w8, mh_w9, mh_w10, bs, e1, mh_l0 hm hm2, (d1.2 m hm2).1, e2]
    rw [hm]
    exact ⟨iv3, la3, e3, f1.tr (f2.tr f3)⟩
  simp only [c2, ↓reduceIte]
  have hk : who < cP (ia 0) := by rcases hw with h | h | h <;> omega
  obtain ⟨iv1, la1, e1, f1⟩ := m_paidBy (mo := mo) (g := g) hv hq (how := ia 0 (39 + 8 * who)) hp hk hm hm2
  simp only [m_its4 hp (show who < 4 by omega), bs, e1]
  exact ⟨iv1, la1, rfl, f1⟩
theorem m_sumOf_loop (hv : Vld (ia 0)) {who a b : Nat} {p : Int32} (hp : p = nI who) (hw : isWho (ia 0) who) (hb : b ≤ 1800) : ∀ (N i : Nat) (iv : Nat → Int32) (la : Nat → Nat → Int64), LQ (ia 0) iv la → a + i ≤ b → b - (a + i) < N → ∃ iv' la', fX10_sumOf_6 N (MH mo iv ia la g) mo p (nI b) (smA (pdW (ia 0) who) a i) (nI (a + i)) = some (smA (pdW (ia 0) who) a (b - a), MH mo iv' ia la' g) ∧ LE (ia 0) iv la iv' la' := by
  intro N
  induction N with
  | zero => intro i _ _ _ _ h; omega
  | succ N ih =>
    intro i iv la hq hi hN
    show ∃ iv' la', fX10_sumOf_6b _ _ _ _ _ _ _ = _ ∧ _
    unfold fX10_sumOf_6b
    by_cases h : a + i = b
    · rw [h, if_pos (Int32.le_refl _), show b - a = i by omega]
      exact ⟨iv, la, rfl, LE.rf hq.2⟩
    · rw [if_neg (by rw [nI_leI (by omega) (by omega)]; omega)]
      obtain ⟨iv1, la1, e1, f1⟩ := m_paidTo (mo := mo) (g := g) hv hq (q := nI (a + i)) rfl (by omega) hp hw
      simp only [e1, bs, nI_1]
      obtain ⟨iv2, la2, e2, f2⟩ := ih (i + 1) iv1 la1 (hq.le f1) (by omega) (by omega)
      exact ⟨iv2, la2, e2, f1.tr f2⟩
theorem m_sumOf (hv : Vld (ia 0)) (hq : LQ (ia 0) iv la) {who a b : Nat} {p pa pb : Int32} (hp : p = nI who) (hw : isWho (ia 0) who) (ha : pa = nI a) (hb : pb = nI b) (hab : a ≤ b) (hb2 : b ≤ 1800) : ∃ iv' la', fnX10_sumOf (MH mo iv ia la g) mo p pa pb = some (smA (pdW (ia 0) who) a (b - a), MH mo iv' ia la' g) ∧ LE (ia 0) iv la iv' la' := by
  unfold fnX10_sumOf
  simp only [mh_is, mh_g0, mh_g4, mh_g6, mh_g12, mh_g14, mh_g15, mh_g16, mh_g17, mh_g18, mh_g19, mh_g20, mh_r1, mh_r2, mh_r3, mh_r5, mh_r7, mh_r8, mh_r9, mh_r10, mh_r11, mh_r13, mh_r21, mh_s0, mh_s4, mh_s6, mh_s12, mh_s14, mh_s15, mh_s16, mh_s17, mh_s18, mh_s19, mh_s20, mh_w0, mh_w1, mh_w2, mh_w3, mh_w4, mh_w5, mh_w6, mh_w7, mh_w8, mh_w9, mh_w10, bs]
  rw [ha, hb]
  exact m_sumOf_loop hv hp hw hb2 pz_F 0 iv la hq (by omega) (by unfold pz_F; omega)
end MD
