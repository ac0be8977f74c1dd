/-! ===== the class's plan: what it answers, by the row w ===== -/
/-- a plan without its spouses is the row's -/
def LwR (w pi tm : Nat → Int32) (sr : Nat → Nat) (so : Nat → Nat → Int32) : Prop :=
  (pi 0 = w 0 ∧ pi 1 = w 1 ∧ pi 2 = w 2 ∧ pi 5 = w 3 ∧ pi 6 = svc w 0 1800 ∧ pi 8 = w 4 ∧ pi 9 = w 5) ∧ (∀ i, i < 5 → tm i = w (6 + i)) ∧ (∀ i, i < 8 → sr i < 8) ∧
  ∀ k, k < cS w → so (sr k) 0 = w (11 + 3 * k) ∧ so (sr k) 1 = w (12 + 3 * k) ∧ so (sr k) 2 = w (13 + 3 * k)
/-- a spouse is the row's -/
def QR (w : Nat → Int32) (k : Nat) (q : Nat → Int32) : Prop := q 0 = w (35 + 8 * k) ∧ q 1 = w (36 + 8 * k) ∧ q 2 = w (37 + 8 * k) ∧ q 3 = w (38 + 8 * k) ∧ q 4 = w (39 + 8 * k) ∧ q 5 = w (40 + 8 * k) ∧ q 6 = w (41 + 8 * k) ∧ q 7 = w (42 + 8 * k) ∧ q 8 = wed w k
theorem mx_sw {a x : Int32} : (if a ≤ x then x else a) = (if x ≤ a then a else x) := by
  by_cases c : a ≤ x <;> by_cases d : x ≤ a
  · rw [if_pos c, if_pos d]; rw [i32_le] at c d; rw [i32_eq]; omega
  · rw [if_pos c, if_neg d]
  · rw [if_neg c, if_pos d]
  · rw [i32_le] at c d; omega
theorem mx_lt {a x : Int32} : (if a < x then x else a) = (if a ≤ x then x else a) := by
  by_cases c : a < x
  · rw [if_pos c, if_pos (by rw [i32_lt] at c; rw [i32_le]; omega)]
  · rw [if_neg c]
    by_cases d : a ≤ x
    · rw [if_pos d]; rw [i32_lt] at c; rw [i32_le] at d; rw [i32_eq]; omega
    · rw [if_neg d]
theorem mn_sw {b y : Int32} : (if y ≤ b then y else b) = (if b ≤ y then b else y) := by
  by_cases c : y ≤ b <;> by_cases d : b ≤ y
  · rw [if_pos c, if_pos d]; rw [i32_le] at c d; rw [i32_eq]; omega
  · rw [if_pos c, if_neg d]
  · rw [if_neg c, if_pos d]
  · rw [i32_le] at c d; omega
theorem c_isMonth (p : Int32) : fnX9_isMonth p = some (inI p 0 1799) := by
  unfold fnX9_isMonth fX9_isMonth_15 fX9_isMonth_16 inI
  by_cases c : p < 0
  · rw [if_pos c, if_pos c]; rfl
  rw [if_neg c, if_neg c]
  by_cases d : (1800 : Int32) ≤ p
  · rw [if_pos d, if_pos (by rw [i32_le] at d; rw [i32_lt]; have : (1800 : Int32).toInt = 1800 := rfl; have : (1799 : Int32).toInt = 1799 := rfl; omega)]; rfl
  · rw [if_neg d, if_neg (by rw [i32_le] at d; rw [i32_lt]; have : (1800 : Int32).toInt = 1800 := rfl; have : (1799 : Int32).toInt = 1799 := rfl; omega)]; rfl
theorem c_isTerm (p : Int32) : fnX9_isTerm p = some (inI p 10 14) := by
  unfold fnX9_isTerm fX9_isTerm_16 fX9_isTerm_17 inI
  by_cases c : p < 10
  · rw [if_pos c, if_pos c]; rfl
  rw [if_neg c, if_neg c]
  by_cases d : (15 : Int32) ≤ p
  · rw [if_pos d, if_pos (by rw [i32_le] at d; rw [i32_lt]; have : (15 : Int32).toInt = 15 := rfl; have : (14 : Int32).toInt = 14 := rfl; omega)]; rfl
  · rw [if_neg d, if_neg (by rw [i32_le] at d; rw [i32_lt]; have : (15 : Int32).toInt = 15 := rfl; have : (14 : Int32).toInt = 14 := rfl; omega)]; rfl
section CA
variable {po : Nat} {w pi tm : Nat → Int32} {sr : Nat → Nat} {so qo tl : Nat → Nat → Int32} {f : pz_H}
theorem c_hasSpouse (h : PlF f po pi tm sr so qo tl) (hr : LwR w pi tm sr so) (hc : Cnt w) (p : Int32) : fnX3_hasSpouse f po p = some (inI p 0 (w 4 - 1)) := by
  unfold fnX3_hasSpouse fX3_hasSpouse_16 fX3_hasSpouse_17 inI
  simp only [p_is h, p_g8 h, bs]
  rw [hr.1.2.2.2.2.2.1]
  have h4 := hc.2.1
  have e : (w 4).toInt = cP w := by rw [h4.1, nI_toInt (by omega)]
  have e2 : (w 4 - 1).toInt = cP w - 1 := by
    have : (1 : Int32).toInt = 1 := rfl
    rw [i32_sub (by omega) (by omega)]; omega
  by_cases c : p < 0
  · rw [if_pos c, if_pos c]; rfl
  rw [if_neg c, if_neg c]
  by_cases d : w 4 ≤ p
  · rw [if_pos d, if_pos (by rw [i32_le] at d; rw [i32_lt]; omega)]; rfl
  · rw [if_neg d, if_neg (by rw [i32_le] at d; rw [i32_lt]; omega)]; rfl
theorem c_service_loop (h : PlF f po pi tm sr so qo tl) (hr : LwR w pi tm sr so) (hc : Cnt w) {a b : Int32} : ∀ (N i : Nat), i ≤ cS w → cS w - i < N → fX3_serviceWithin_5 f N po a b (svN w a b i) (nI i) = some (svc w a b) := by
  intro N
  have hn := hc.1.1
  have h8 := hc.1.2
  induction N with
  | zero => intro i _ hh; omega
  | succ N ih =>
    intro i hi hN
    show fX3_serviceWithin_5b _ _ _ _ _ _ _ = _
    unfold fX3_serviceWithin_5b
    simp only [p_g5 h, bs]
    rw [hr.1.2.2.2.1, hn]
    by_cases c : i = cS w
    · rw [← c, if_pos (Int32.le_refl _), c]; rfl
    · have hlt : i < cS w := by omega
      obtain ⟨s0, s1, s2⟩ := hr.2.2.2 i hlt
      have hj := hr.2.2.1 i (by omega)
      rw [if_neg (by rw [nI_leI (by omega) (by omega)]; omega)]
      unfold fX3_serviceWithin_42 fX3_serviceWithin_72 fX3_serviceWithin_91
      simp only [p_r4 h, p_sr h (i := nI i) rfl (show i < 8 by omega), p_s0g h hj, p_s1g h hj, bs, s0, s1, nI_1]
      have key := ih (i + 1) (by omega) (by omega)
      have hs : svN w a b (i + 1) = svN w a b i + svT (w (11 + 3 * i)) (w (12 + 3 * i)) a b := rfl
      rw [hs] at key
      unfold svT at key
      rw [← mx_sw (a := a) (x := w (11 + 3 * i)), ← mn_sw (b := b) (y := w (12 + 3 * i))] at key
      by_cases c1 : a ≤ w (11 + 3 * i) <;> by_cases c2 : w (12 + 3 * i) ≤ b <;> simp only [c1, c2, ↓reduceIte] at key ⊢ <;> (split <;> (rename_i c3; simp only [c3, ↓reduceIte] at key; exact key))
theorem c_service (h : PlF f po pi tm sr so qo tl) (hr : LwR w pi tm sr so) (hc : Cnt w) {a b : Int32} : fnX3_serviceWithin f po a b = some (svc w a b) := by
  unfold fnX3_serviceWithin
  simp only [p_is h, bs]
  exact c_service_loop h hr hc pz_F 0 (by omega) (by have := hc.1.2; unfold pz_F; omega)
theorem c_lastTo (h : PlF f po pi tm sr so qo tl) (hr : LwR w pi tm sr so) (hc : Cnt w) : fnX3_lastTo f po = some (lstW w) := by
  unfold fnX3_lastTo fX3_lastTo_25 lstW
  simp only [p_is h, p_g5 h, p_r4 h, bs]
  rw [hr.1.2.2.2.1]
  have hS := hc.1
  by_cases c : w 3 = 0
  · rw [if_pos c, if_pos c]
  · rw [if_neg c, if_neg c]
    have h1 : 0 < cS w := by
      rcases Nat.eq_zero_or_pos (cS w) with q | q
      · exfalso; apply c; rw [hS.1, q]; rfl
      · exact q
    have hj := hr.2.2.1 (cS w - 1) (by omega)
    obtain ⟨s0, s1, s2⟩ := hr.2.2.2 (cS w - 1) (by omega)
    have h2 : w 3 - 1 = nI (cS w - 1) := by rw [hS.1, pred_nI h1]
    rw [p_sr h h2 (by omega), bs, p_s1g h hj, bs, s1]
theorem c_beginOf (h : PlF f po pi tm sr so qo tl) (hr : LwR w pi tm sr so) {a k : Nat} {q : Nat → Int32} (hs : SpF f a q) (hq : QR w k q) : fnX3_beginOf f po a = some (beg w k) := by
  unfold fnX3_beginOf fX3_beginOf_23 beg
  simp only [p_is h, p_g1 h, q_g6 hs, bs]
  rw [hr.1.2.1, hq.2.2.2.2.2.2.1, mx_lt]
  by_cases c : w 1 = -1
  · rw [if_pos c, if_pos c]
  · rw [if_neg c, if_neg c]
theorem c_isPartedBy {a k : Nat} {q : Nat → Int32} (hs : SpF f a q) (hq : QR w k q) (p : Int32) : fnX7_isPartedBy f a p = some (if w (37 + 8 * k) = -1 then 0 else if p < w (37 + 8 * k) then 0 else 1) := by
  unfold fnX7_isPartedBy fX7_isPartedBy_20 fX7_isPartedBy_21
  simp only [q_is hs, q_g2 hs, bs]
  rw [hq.2.2.1]
  by_cases c : w (37 + 8 * k) = -1
  · rw [if_pos c, if_pos c]; rfl
  · rw [if_neg c, if_neg c]
    by_cases d : p < w (37 + 8 * k)
    · rw [if_pos d, if_pos d]; rfl
    · rw [if_neg d, if_neg d]; rfl
theorem c_shareOf (h : PlF f po pi tm sr so qo tl) (hr : LwR w pi tm sr so) (hv : Vld w) {a k : Nat} {q : Nat → Int32} (hs : SpF f a q) (hq : QR w k q) (x : Int32) : fnX3_shareOf f po a x = some (if nS w = 0 then 0 else x.toInt64 * (w (38 + 8 * k)).toInt64 * (wed w k).toInt64 / (1000 * (nS w).toInt64)) := by
  unfold fnX3_shareOf
  simp only [p_is h, p_g6 h, q_g3 hs, q_g8 hs, bs]
  rw [hr.1.2.2.2.2.1, hq.2.2.2.1, hq.2.2.2.2.2.2.2.2]
  show (if nS w = 0 then _ else if 1000 * (nS w).toInt64 = 0 then _ else _) = _
  by_cases c : nS w = 0
  · rw [if_pos c, if_pos c]
  · rw [if_neg c, if_neg c, if_neg (nS_64 hv c)]; rfl
theorem c_finalPay_loop (h : PlF f po pi tm sr so qo tl) (hr : LwR w pi tm sr so) (hv : Vld w) : ∀ (N k : Nat) (l2 m : Int32) (s : Int64), k ≤ cS w → k < N → 0 ≤ m.toInt → m.toInt ≤ 36 → 0 ≤ l2.toInt → l2.toInt ≤ m.toInt * 1000000 → s = l2.toInt64 → fX3_finalPay_11 f N po m l2 (nI k - 1) = some (fpL w k s m) := by
  intro N
  have h8 := hv.1.1.2
  induction N with
  | zero => intro k l2 m s _ hh; omega
  | succ N ih =>
    intro k l2 m s hk hN m0 m1 l0 l1 hs
    show fX3_finalPay_11b _ _ _ _ _ _ = _
    unfold fX3_finalPay_11b fX3_finalPay_95
    cases k with
    | zero =>
      rw [if_pos (by decide)]
      unfold fpL
      by_cases hm : m = 0
      · rw [if_pos hm, if_pos hm]
      · rw [if_neg hm, if_neg hm, if_neg hm]
        have hmp := nz_pos m0 hm
        congr 1
        have e1 := i32_div l0 hmp
        have e2 : (s / m.toInt64).toInt = l2.toInt / m.toInt := by
          rw [hs, i64_div (by rw [i64_of]; exact l0) (by rw [i64_of]; exact hmp), i64_of, i64_of]
        have b1 : 0 ≤ l2.toInt / m.toInt := Int.ediv_nonneg l0 m0
        have b2 : l2.toInt / m.toInt ≤ l2.toInt := Int.ediv_le_self _ l0
        rw [i32_eq, e1, i32_of (by omega) (by omega), e2]
    | succ k =>
      rw [nI_pred, if_neg (nI_pos (by omega))]
      obtain ⟨s0, s1, s2⟩ := hr.2.2.2 k (by omega)
      have hj := hr.2.2.1 k (by omega)
      obtain ⟨v1, v2, v3, v4, v5⟩ := hv.2.2.2.2.2.2.2.2.2.1 k (by omega)
      have hb0 := hv.2.1.1
      unfold fX3_finalPay_56
      have e : nI k + (-1) = nI k - 1 := by rw [Int32.sub_eq_add_neg]
      simp only [p_r4 h, p_sr h (i := nI k) rfl (show k < 8 by omega), p_s0g h hj, p_s1g h hj, p_s2g h hj, bs, s0, s1, s2, e]
      have x36 : (36 : Int32).toInt = 36 := rfl
      have en : (w (12 + 3 * k) - w (11 + 3 * k)).toInt = (w (12 + 3 * k)).toInt - (w (11 + 3 * k)).toInt := i32_sub (by omega) (by omega)
      have em : ((36 : Int32) - m).toInt = 36 - m.toInt := by rw [i32_sub (by omega) (by omega), x36]
      have go : ∀ t : Int32, 0 ≤ t.toInt → t.toInt ≤ 36 - m.toInt → fX3_finalPay_11 f N po (m + t) (l2 + t * w (13 + 3 * k)) (nI k - 1) = some (fpL w k (s + t.toInt64 * (w (13 + 3 * k)).toInt64) (m + t)) := by
        intro t t0 t1
        have p0 : 0 ≤ t.toInt * (w (13 + 3 * k)).toInt := Int.mul_nonneg t0 v4
        have p1 : t.toInt * (w (13 + 3 * k)).toInt ≤ t.toInt * 1000000 := Int.mul_le_mul_of_nonneg_left v5 t0
        have ep : (t * w (13 + 3 * k)).toInt = t.toInt * (w (13 + 3 * k)).toInt := i32_mul (by omega) (by omega)
        have es : (l2 + t * w (13 + 3 * k)).toInt = l2.toInt + t.toInt * (w (13 + 3 * k)).toInt := by rw [i32_add (by omega) (by omega), ep]
        have eM : (m + t).toInt = m.toInt + t.toInt := i32_add (by omega) (by omega)
        refine ih k _ _ _ (by omega) (by omega) (by omega) (by omega) (by omega) (by omega) ?_
        have ep6 : (t.toInt64 * (w (13 + 3 * k)).toInt64).toInt = t.toInt * (w (13 + 3 * k)).toInt := by
          rw [i64_mul (by rw [i64_of, i64_of]; omega) (by rw [i64_of, i64_of]; omega), i64_of, i64_of]
        rw [i64_eq, i64_of, es, i64_add (by rw [hs, i64_of, ep6]; omega) (by rw [hs, i64_of, ep6]; omega), hs, i64_of, ep6]
      conv => rhs; unfold fpL
      by_cases c1 : (36 : Int32) - m ≤ w (12 + 3 * k) - w (11 + 3 * k)
      · rw [if_pos c1]
        by_cases c2 : w (12 + 3 * k) - w (11 + 3 * k) ≤ 36 - m
        · rw [if_pos c2]
          have ee : (36 : Int32) - m = w (12 + 3 * k) - w (11 + 3 * k) := by rw [i32_le] at c1 c2; rw [i32_eq]; omega
          rw [ee]; exact go _ (by omega) (by rw [i32_le] at c2; omega)
        · rw [if_neg c2]; exact go _ (by omega) (by omega)
      · rw [if_neg c1]
        rw [if_pos (by rw [i32_le] at c1 ⊢; omega)]
        exact go _ (by omega) (by rw [i32_le] at c1; omega)
theorem c_finalPay (h : PlF f po pi tm sr so qo tl) (hr : LwR w pi tm sr so) (hv : Vld w) : fnX3_finalPay f po = some (fpay w) := by
  unfold fnX3_finalPay
  simp only [p_is h, p_g5 h, bs]
  rw [hr.1.2.2.2.1, hv.1.1.1]
  exact c_finalPay_loop h hr hv pz_F (cS w) 0 0 0 (Nat.le_refl _) (by have := hv.1.1.2; unfold pz_F; omega) (by decide) (by decide) (by decide) (by decide) rfl
theorem c_basePay (h : PlF f po pi tm sr so qo tl) (hr : LwR w pi tm sr so) (hv : Vld w) : fnX3_basePay f po = some (basev w) := by
  unfold fnX3_basePay
  simp only [p_is h, p_r3 h, p_tm h (i := (0 : Int32)) (k := 0) rfl (by decide), p_g6 h, c_finalPay h hr hv, bs]
  rw [hr.2.1 0 (by decide), hr.1.2.2.2.2.1]; rfl
theorem c_firstPay (h : PlF f po pi tm sr so qo tl) (hr : LwR w pi tm sr so) (hv : Vld w) : fnX3_firstPay f po = some (first w) := by
  unfold fnX3_firstPay
  simp only [p_is h, p_g0 h, p_g1 h, p_r3 h, p_tm h (i := (1 : Int32)) (k := 1) rfl (by decide), p_tm h (i := (2 : Int32)) (k := 2) rfl (by decide), c_basePay h hr hv, bs]
  rw [hr.2.1 1 (by decide), hr.2.1 2 (by decide), hr.1.1, hr.1.2.1]
  show (if w 1 = -1 then some 0 else some _) = _
  unfold first partv
  by_cases c : w 1 = -1
  · rw [if_pos c, if_pos c]
  rw [if_neg c, if_neg c]
  congr 1
  show ((basev w).toInt64 * (Int32.toInt64 (if (0 : Int32) < (1000 : Int32) - w 8 * (if (0 : Int32) < w 7 - (w 1 - w 0) then w 7 - (w 1 - w 0) else (0 : Int32)) then (1000 : Int32) - w 8 * (if (0 : Int32) < w 7 - (w 1 - w 0) then w 7 - (w 1 - w 0) else (0 : Int32)) else (0 : Int32))) / 1000).toInt32 = _
  generalize w 7 - (w 1 - w 0) = x
  have nn : ∀ y : Int32, (0 < y) ↔ ¬ y ≤ 0 := fun y => by rw [i32_lt, i32_le]; omega
  by_cases d : x ≤ 0
  · rw [if_neg (fun z => (nn x).mp z d), if_pos d, Int32.mul_zero, Int32.sub_zero]; rfl
  · rw [if_pos ((nn x).mpr d), if_neg d]
    by_cases e : 1000 - w 8 * x ≤ 0
    · rw [if_neg (fun z => (nn _).mp z e), if_pos e]
      show ((basev w).toInt64 * 0 / 1000).toInt32 = 0
      rw [Int64.mul_zero]; rfl
    · rw [if_pos ((nn _).mpr e), if_neg e]
end CA
