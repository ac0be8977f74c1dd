/-! ===== the class's reckoner as a block ===== -/
def RC (ro : Nat) (ra : Nat → Nat → Int32) (ow : Nat → Int64) (ch : Nat → Int32) : Nat → Option pz_E := fun o => match o with
  | 0 => some (.inl (4, [.ref (ro + 1), .ref (ro + 2), .ref (ro + 3), .ref (ro + 4), .ref (ro + 5), .ref (ro + 6)]))
  | 1 => some (.inr (0, 1800, .inl (ra 0)))
  | 2 => some (.inr (0, 1800, .inl (ra 1)))
  | 3 => some (.inr (0, 1800, .inl (ra 2)))
  | 4 => some (.inr (0, 1800, .inl (ra 3)))
  | 5 => some (.inr (1, 4, .inr (.inl ow)))
  | 6 => some (.inl (6, QF ch))
  | _ => none
def RB (ro : Nat) (ra : Nat → Nat → Int32) (ow : Nat → Int64) (ch : Nat → Int32) (f : pz_H) : pz_H := BU ro 7 (RC ro ra ow ch) f
def RkF (f : pz_H) (ro : Nat) (ra : Nat → Nat → Int32) (ow : Nat → Int64) (ch : Nat → Int32) : Prop := ∀ o, o < 7 → f.1 (ro + o) = RC ro ra ow ch o
section RBS
variable {ro po : Nat} {ra ra' : Nat → Nat → Int32} {ow ow' : Nat → Int64} {ch ch' : Nat → Int32} {f : pz_H}
theorem RB_rkf : RkF (RB ro ra ow ch f) ro ra ow ch := fun _ h => BU_at h
theorem RkF.rb (h : RkF f ro ra ow ch) : RB ro ra ow ch f = f := BU_self h
theorem RB_RB : RB ro ra ow ch (RB ro ra' ow' ch' f) = RB ro ra ow ch f := BU_BU
theorem RkF.c0 (h : RkF f ro ra ow ch) : f.1 ro = some (.inl (4, [.ref (ro + 1), .ref (ro + 2), .ref (ro + 3), .ref (ro + 4), .ref (ro + 5), .ref (ro + 6)])) := h 0 (by decide)
theorem RkF.sp (h : RkF f ro ra ow ch) : SpF f (ro + 6) ch := h 6 (by decide)
theorem r_is (h : RkF f ro ra ow ch) : pz_is f ro 4 = some () := is_of h.c0
theorem PlF.rb {pi tm : Nat → Int32} {sr : Nat → Nat} {so qo tl : Nat → Nat → Int32} (h : PlF f po pi tm sr so qo tl) (hd : po + 19 ≤ ro ∨ ro + 7 ≤ po) : PlF (RB ro ra ow ch f) po pi tm sr so qo tl := fun o ho => by
  unfold RB; rw [BU_ne (by omega)]; exact h o ho
theorem SpF.rb {a : Nat} {q : Nat → Int32} (h : SpF f a q) (hd : a < ro ∨ ro + 7 ≤ a) : SpF (RB ro ra ow ch f) a q := by
  unfold SpF RB; rw [BU_ne hd]; exact h
theorem r_r0 (h : RkF f ro ra ow ch) : pz_gR f ro 4 0 = some (ro + 1) := gR_of h.c0 rfl
theorem r_r1 (h : RkF f ro ra ow ch) : pz_gR f ro 4 1 = some (ro + 2) := gR_of h.c0 rfl
theorem r_r2 (h : RkF f ro ra ow ch) : pz_gR f ro 4 2 = some (ro + 3) := gR_of h.c0 rfl
theorem r_r3 (h : RkF f ro ra ow ch) : pz_gR f ro 4 3 = some (ro + 4) := gR_of h.c0 rfl
theorem r_r4 (h : RkF f ro ra ow ch) : pz_gR f ro 4 4 = some (ro + 5) := gR_of h.c0 rfl
theorem r_r5 (h : RkF f ro ra ow ch) : pz_gR f ro 4 5 = some (ro + 6) := gR_of h.c0 rfl
theorem r_i0 (h : RkF f ro ra ow ch) {i : Int32} {k : Nat} (hi : i = nI k) (hk : k < 1800) : pz_aI f (ro + 1) 0 i = some (ra 0 k) := aI_of (h 1 (by decide)) hi hk (by decide)
theorem r_n0 (h : RkF f ro ra ow ch) : pz_ln f (ro + 1) 0 = some 1800 := by
  have hc : f.1 (ro + 1) = some (.inr (0, 1800, .inl (ra 0))) := h 1 (by decide)
  unfold pz_ln; rw [hc]; rfl
theorem r_w0 (h : RkF f ro ra ow ch) {i v : Int32} {k : Nat} (hi : i = nI k) (hk : k < 1800) : pz_tI f (ro + 1) 0 i v = some (RB ro (va_up ra 0 (upd (ra 0) k v)) ow ch f) := by
  rw [tI_of (h 1 (by decide)) hi hk (by decide), ← h.rb]; unfold RB; rw [BU_up (by decide), BU_BU]
  congr 2; funext o; match o with
  | 0 => rfl
  | 1 => rfl
  | 2 => rfl
  | 3 => rfl
  | 4 => rfl
  | 5 => rfl
  | 6 => rfl
  | n + 7 => rfl
theorem r_i1 (h : RkF f ro ra ow ch) {i : Int32} {k : Nat} (hi : i = nI k) (hk : k < 1800) : pz_aI f (ro + 2) 0 i = some (ra 1 k) := aI_of (h 2 (by decide)) hi hk (by decide)
theorem r_n1 (h : RkF f ro ra ow ch) : pz_ln f (ro + 2) 0 = some 1800 := by
  have hc : f.1 (ro + 2) = some (.inr (0, 1800, .inl (ra 1))) := h 2 (by decide)
  unfold pz_ln; rw [hc]; rfl
theorem r_w1 (h : RkF f ro ra ow ch) {i v : Int32} {k : Nat} (hi : i = nI k) (hk : k < 1800) : pz_tI f (ro + 2) 0 i v = some (RB ro (va_up ra 1 (upd (ra 1) k v)) ow ch f) := by
  rw [tI_of (h 2 (by decide)) hi hk (by decide), ← h.rb]; unfold RB; rw [BU_up (by decide), BU_BU]
  congr 2; funext o; match o with
  | 0 => rfl
  | 1 => rfl
  | 2 => rfl
  | 3 => rfl
  | 4 => rfl
  | 5 => rfl
  | 6 => rfl
  | n + 7 => rfl
theorem r_i2 (h : RkF f ro ra ow ch) {i : Int32} {k : Nat} (hi : i = nI k) (hk : k < 1800) : pz_aI f (ro + 3) 0 i = some (ra 2 k) := aI_of (h 3 (by decide)) hi hk (by decide)
theorem r_n2 (h : RkF f ro ra ow ch) : pz_ln f (ro + 3) 0 = some 1800 := by
  have hc : f.1 (ro + 3) = some (.inr (0, 1800, .inl (ra 2))) := h 3 (by decide)
  unfold pz_ln; rw [hc]; rfl
theorem r_w2 (h : RkF f ro ra ow ch) {i v : Int32} {k : Nat} (hi : i = nI k) (hk : k < 1800) : pz_tI f (ro + 3) 0 i v = some (RB ro (va_up ra 2 (upd (ra 2) k v)) ow ch f) := by
  rw [tI_of (h 3 (by decide)) hi hk (by decide), ← h.rb]; unfold RB; rw [BU_up (by decide), BU_BU]
  congr 2; funext o; match o with
  | 0 => rfl
  | 1 => rfl
  | 2 => rfl
  | 3 => rfl
  | 4 => rfl
  | 5 => rfl
  | 6 => rfl
  | n + 7 => rfl
theorem r_i3 (h : RkF f ro ra ow ch) {i : Int32} {k : Nat} (hi : i = nI k) (hk : k < 1800) : pz_aI f (ro + 4) 0 i = some (ra 3 k) := aI_of (h 4 (by decide)) hi hk (by decide)
theorem r_n3 (h : RkF f ro ra ow ch) : pz_ln f (ro + 4) 0 = some 1800 := by
  have hc : f.1 (ro + 4) = some (.inr (0, 1800, .inl (ra 3))) := h 4 (by decide)
  unfold pz_ln; rw [hc]; rfl
theorem r_w3 (h : RkF f ro ra ow ch) {i v : Int32} {k : Nat} (hi : i = nI k) (hk : k < 1800) : pz_tI f (ro + 4) 0 i v = some (RB ro (va_up ra 3 (upd (ra 3) k v)) ow ch f) := by
  rw [tI_of (h 4 (by decide)) hi hk (by decide), ← h.rb]; unfold RB; rw [BU_up (by decide), BU_BU]
  congr 2; funext o; match o with
  | 0 => rfl
  | 1 => rfl
  | 2 => rfl
  | 3 => rfl
  | 4 => rfl
  | 5 => rfl
  | 6 => rfl
  | n + 7 => rfl
theorem r_o (h : RkF f ro ra ow ch) {i : Int32} {k : Nat} (hi : i = nI k) (hk : k < 4) : pz_aL f (ro + 5) 1 i = some (ow k) := aL_of (h 5 (by decide)) hi hk (by decide)
theorem r_wo (h : RkF f ro ra ow ch) {i : Int32} {v : Int64} {k : Nat} (hi : i = nI k) (hk : k < 4) : pz_tL f (ro + 5) 1 i v = some (RB ro ra (vp_updL ow k v) ch f) := by
  rw [tL_of (h 5 (by decide)) hi hk (by decide), ← h.rb]; unfold RB; rw [BU_up (by decide), BU_BU]
  congr 2; funext o; match o with
  | 0 => rfl
  | 1 => rfl
  | 2 => rfl
  | 3 => rfl
  | 4 => rfl
  | 5 => rfl
  | 6 => rfl
  | n + 7 => rfl
theorem r_c0 (h : RkF f ro ra ow ch) {v : Int32} : pz_sV f (ro + 6) 6 0 (.int v) = some (RB ro ra ow (va_up ch 0 v) f) := by
  rw [sV_of h.sp (show 0 < 9 by decide), ← h.rb]; unfold RB; rw [BU_up (by decide), BU_BU]
  congr 2; funext o; match o with
  | 0 => rfl
  | 1 => rfl
  | 2 => rfl
  | 3 => rfl
  | 4 => rfl
  | 5 => rfl
  | 6 => rfl
  | n + 7 => rfl
theorem r_c1 (h : RkF f ro ra ow ch) {v : Int32} : pz_sV f (ro + 6) 6 1 (.int v) = some (RB ro ra ow (va_up ch 1 v) f) := by
  rw [sV_of h.sp (show 1 < 9 by decide), ← h.rb]; unfold RB; rw [BU_up (by decide), BU_BU]
  congr 2; funext o; match o with
  | 0 => rfl
  | 1 => rfl
  | 2 => rfl
  | 3 => rfl
  | 4 => rfl
  | 5 => rfl
  | 6 => rfl
  | n + 7 => rfl
theorem r_c2 (h : RkF f ro ra ow ch) {v : Int32} : pz_sV f (ro + 6) 6 2 (.int v) = some (RB ro ra ow (va_up ch 2 v) f) := by
  rw [sV_of h.sp (show 2 < 9 by decide), ← h.rb]; unfold RB; rw [BU_up (by decide), BU_BU]
  congr 2; funext o; match o with
  | 0 => rfl
  | 1 => rfl
  | 2 => rfl
  | 3 => rfl
  | 4 => rfl
  | 5 => rfl
  | 6 => rfl
  | n + 7 => rfl
theorem r_c3 (h : RkF f ro ra ow ch) {v : Int32} : pz_sV f (ro + 6) 6 3 (.int v) = some (RB ro ra ow (va_up ch 3 v) f) := by
  rw [sV_of h.sp (show 3 < 9 by decide), ← h.rb]; unfold RB; rw [BU_up (by decide), BU_BU]
  congr 2; funext o; match o with
  | 0 => rfl
  | 1 => rfl
  | 2 => rfl
  | 3 => rfl
  | 4 => rfl
  | 5 => rfl
  | 6 => rfl
  | n + 7 => rfl
theorem r_c4 (h : RkF f ro ra ow ch) {v : Int32} : pz_sV f (ro + 6) 6 4 (.int v) = some (RB ro ra ow (va_up ch 4 v) f) := by
  rw [sV_of h.sp (show 4 < 9 by decide), ← h.rb]; unfold RB; rw [BU_up (by decide), BU_BU]
  congr 2; funext o; match o with
  | 0 => rfl
  | 1 => rfl
  | 2 => rfl
  | 3 => rfl
  | 4 => rfl
  | 5 => rfl
  | 6 => rfl
  | n + 7 => rfl
theorem r_c5 (h : RkF f ro ra ow ch) {v : Int32} : pz_sV f (ro + 6) 6 5 (.int v) = some (RB ro ra ow (va_up ch 5 v) f) := by
  rw [sV_of h.sp (show 5 < 9 by decide), ← h.rb]; unfold RB; rw [BU_up (by decide), BU_BU]
  congr 2; funext o; match o with
  | 0 => rfl
  | 1 => rfl
  | 2 => rfl
  | 3 => rfl
  | 4 => rfl
  | 5 => rfl
  | 6 => rfl
  | n + 7 => rfl
theorem r_c6 (h : RkF f ro ra ow ch) {v : Int32} : pz_sV f (ro + 6) 6 6 (.int v) = some (RB ro ra ow (va_up ch 6 v) f) := by
  rw [sV_of h.sp (show 6 < 9 by decide), ← h.rb]; unfold RB; rw [BU_up (by decide), BU_BU]
  congr 2; funext o; match o with
  | 0 => rfl
  | 1 => rfl
  | 2 => rfl
  | 3 => rfl
  | 4 => rfl
  | 5 => rfl
  | 6 => rfl
  | n + 7 => rfl
theorem r_c7 (h : RkF f ro ra ow ch) {v : Int32} : pz_sV f (ro + 6) 6 7 (.int v) = some (RB ro ra ow (va_up ch 7 v) f) := by
  rw [sV_of h.sp (show 7 < 9 by decide), ← h.rb]; unfold RB; rw [BU_up (by decide), BU_BU]
  congr 2; funext o; match o with
  | 0 => rfl
  | 1 => rfl
  | 2 => rfl
  | 3 => rfl
  | 4 => rfl
  | 5 => rfl
  | 6 => rfl
  | n + 7 => rfl
theorem r_c8 (h : RkF f ro ra ow ch) {v : Int32} : pz_sV f (ro + 6) 6 8 (.int v) = some (RB ro ra ow (va_up ch 8 v) f) := by
  rw [sV_of h.sp (show 8 < 9 by decide), ← h.rb]; unfold RB; rw [BU_up (by decide), BU_BU]
  congr 2; funext o; match o with
  | 0 => rfl
  | 1 => rfl
  | 2 => rfl
  | 3 => rfl
  | 4 => rfl
  | 5 => rfl
  | 6 => rfl
  | n + 7 => rfl
end RBS
/-! ===== bounds: what is paid, what a month is worth ===== -/
theorem fpL_bd {w : Nat → Int32} (hv : Vld w) : ∀ (k : Nat) (s : Int64) (m : Int32), k ≤ cS w → 0 ≤ m.toInt → m.toInt ≤ 36 → 0 ≤ s.toInt → s.toInt ≤ m.toInt * 1000000 → 0 ≤ (fpL w k s m).toInt ∧ (fpL w k s m).toInt ≤ 1000000
  | 0, s, m, _, m0, m1, s0, s1 => by
    unfold fpL
    by_cases hm : m = 0
    · rw [if_pos hm]; decide
    · rw [if_neg hm]
      have hmp := nz_pos m0 hm
      have e2 : (s / m.toInt64).toInt = s.toInt / m.toInt := by rw [i64_div s0 (by rw [i64_of]; exact hmp), i64_of]
      have b1 : 0 ≤ s.toInt / m.toInt := Int.ediv_nonneg s0 m0
      have b2 : s.toInt / m.toInt ≤ 1000000 := by
        have h := Int.ediv_le_ediv hmp s1
        rw [Int.mul_comm, Int.mul_ediv_cancel _ (by omega)] at h; exact h
      rw [i32_of (by omega) (by omega), e2]; omega
  | k + 1, s, m, hk, m0, m1, s0, s1 => by
    obtain ⟨v1, v2, v3, v4, v5⟩ := hv.2.2.2.2.2.2.2.2.2.1 k (by omega)
    have hb0 := hv.2.1.1
    have x36 : (36 : Int32).toInt = 36 := rfl
    have en : (w (12 + 3 * k) - w (11 + 3 * k)).toInt = (w (12 + 3 * k)).toInt - (w (11 + 3 * k)).toInt := i32_sub (by omega) (by omega)
    have em : ((36 : Int32) - m).toInt = 36 - m.toInt := by rw [i32_sub (by omega) (by omega), x36]
    have go : ∀ t : Int32, 0 ≤ t.toInt → t.toInt ≤ 36 - m.toInt → 0 ≤ (fpL w k (s + t.toInt64 * (w (13 + 3 * k)).toInt64) (m + t)).toInt ∧ (fpL w k (s + t.toInt64 * (w (13 + 3 * k)).toInt64) (m + t)).toInt ≤ 1000000 := by
      intro t t0 t1
      have p0 : 0 ≤ t.toInt * (w (13 + 3 * k)).toInt := Int.mul_nonneg t0 v4
      have p1 : t.toInt * (w (13 + 3 * k)).toInt ≤ t.toInt * 1000000 := Int.mul_le_mul_of_nonneg_left v5 t0
      have eM : (m + t).toInt = m.toInt + t.toInt := i32_add (by omega) (by omega)
      have ep6 : (t.toInt64 * (w (13 + 3 * k)).toInt64).toInt = t.toInt * (w (13 + 3 * k)).toInt := by
        rw [i64_mul (by rw [i64_of, i64_of]; omega) (by rw [i64_of, i64_of]; omega), i64_of, i64_of]
      have es : (s + t.toInt64 * (w (13 + 3 * k)).toInt64).toInt = s.toInt + t.toInt * (w (13 + 3 * k)).toInt := by rw [i64_add (by omega) (by omega), ep6]
      exact fpL_bd hv k _ _ (by omega) (by omega) (by omega) (by omega) (by omega)
    unfold fpL
    by_cases c2 : w (12 + 3 * k) - w (11 + 3 * k) ≤ 36 - m
    · rw [if_pos c2]; exact go _ (by omega) (by rw [i32_le] at c2; omega)
    · rw [if_neg c2]; exact go _ (by omega) (by omega)
theorem fpay_bd {w : Nat → Int32} (hv : Vld w) : 0 ≤ (fpay w).toInt ∧ (fpay w).toInt ≤ 1000000 := fpL_bd hv (cS w) 0 0 (Nat.le_refl _) (by decide) (by decide) (by decide) (by decide)
theorem base_bd {w : Nat → Int32} (hv : Vld w) : 0 ≤ (basev w).toInt ∧ (basev w).toInt ≤ 6000000 := by
  have h1 := fpay_bd hv
  have h2 := hv.2.2.2.2.1
  have h3 : 0 ≤ (svc w 0 1800).toInt ∧ (svc w 0 1800).toInt ≤ 1799 := nS_toInt hv
  have a0 : 0 ≤ (fpay w).toInt * (w 6).toInt := Int.mul_nonneg h1.1 h2.1
  have a1 : (fpay w).toInt * (w 6).toInt ≤ 1000000 * 400 := Int.mul_le_mul h1.2 h2.2 h2.1 (by decide)
  have b0 : 0 ≤ (fpay w).toInt * (w 6).toInt * (svc w 0 1800).toInt := Int.mul_nonneg a0 h3.1
  have b1 : (fpay w).toInt * (w 6).toInt * (svc w 0 1800).toInt ≤ 1000000 * 400 * 1799 := Int.mul_le_mul a1 h3.2 h3.1 (by decide)
  have e1 : ((fpay w).toInt64 * (w 6).toInt64).toInt = (fpay w).toInt * (w 6).toInt := by rw [i64_mul (by rw [i64_of, i64_of]; omega) (by rw [i64_of, i64_of]; omega), i64_of, i64_of]
  have e2 : ((fpay w).toInt64 * (w 6).toInt64 * (svc w 0 1800).toInt64).toInt = (fpay w).toInt * (w 6).toInt * (svc w 0 1800).toInt := by rw [i64_mul (by rw [e1, i64_of]; omega) (by rw [e1, i64_of]; omega), e1, i64_of]
  have x : (120000 : Int64).toInt = 120000 := rfl
  have e3 : ((fpay w).toInt64 * (w 6).toInt64 * (svc w 0 1800).toInt64 / 120000).toInt = (fpay w).toInt * (w 6).toInt * (svc w 0 1800).toInt / 120000 := by rw [i64_div (by omega) (by rw [x]; decide), e2, x]
  unfold basev
  rw [i32_of (by omega) (by omega), e3]; omega
theorem part_bd {w : Nat → Int32} (hv : Vld w) (h1 : ¬ w 1 = -1) : (partv w).toInt ≤ 1000 := by
  obtain ⟨r1, r2, r3, r4⟩ := hv.r h1
  have h0 := hv.2.1
  have h7 := hv.2.2.2.2.2.1
  have h8 := hv.2.2.2.2.2.2.1
  have e1 : (w 1 - w 0).toInt = (w 1).toInt - (w 0).toInt := i32_sub (by omega) (by omega)
  have e2 : (w 7 - (w 1 - w 0)).toInt = (w 7).toInt - ((w 1).toInt - (w 0).toInt) := by rw [i32_sub (by rw [e1]; omega) (by rw [e1]; omega), e1]
  unfold partv
  by_cases c : w 7 - (w 1 - w 0) ≤ 0
  · rw [if_pos c]; decide
  · rw [if_neg c]
    rw [i32_le, z32] at c
    have x : (1000 : Int32).toInt = 1000 := rfl
    have m0 : 0 ≤ (w 8).toInt * (w 7 - (w 1 - w 0)).toInt := Int.mul_nonneg h8.1 (by omega)
    have m1 : (w 8).toInt * (w 7 - (w 1 - w 0)).toInt ≤ 10 * 1200 := Int.mul_le_mul h8.2 (by omega) (by omega) (by decide)
    have e3 : (w 8 * (w 7 - (w 1 - w 0))).toInt = (w 8).toInt * (w 7 - (w 1 - w 0)).toInt := i32_mul (by omega) (by omega)
    rw [i32_sub (by omega) (by omega), e3]; omega
theorem first_bd {w : Nat → Int32} (hv : Vld w) : 0 ≤ (first w).toInt ∧ (first w).toInt ≤ 6000000 := by
  unfold first
  by_cases c : w 1 = -1
  · rw [if_pos c]; decide
  rw [if_neg c]
  by_cases d : partv w ≤ 0
  · rw [if_pos d]; decide
  rw [if_neg d]
  rw [i32_le, z32] at d
  have h1 := base_bd hv
  have h2 := part_bd hv c
  have m0 : 0 ≤ (basev w).toInt * (partv w).toInt := Int.mul_nonneg h1.1 (by omega)
  have m1 : (basev w).toInt * (partv w).toInt ≤ 6000000 * 1000 := Int.mul_le_mul h1.2 h2 (by omega) (by decide)
  have e1 : ((basev w).toInt64 * (partv w).toInt64).toInt = (basev w).toInt * (partv w).toInt := by rw [i64_mul (by rw [i64_of, i64_of]; omega) (by rw [i64_of, i64_of]; omega), i64_of, i64_of]
  have x : (1000 : Int64).toInt = 1000 := rfl
  have e3 : ((basev w).toInt64 * (partv w).toInt64 / 1000).toInt = (basev w).toInt * (partv w).toInt / 1000 := by rw [i64_div (by omega) (by rw [x]; decide), e1, x]
  rw [i32_of (by omega) (by omega), e3]; omega
/-- how high a pension rises in n years -/
def gB : Nat → Int
  | 0 => 6000000
  | n + 1 => gB n * 1030 / 1000
theorem gB_up (n : Nat) : 0 ≤ gB n ∧ gB n ≤ gB (n + 1) := by
  induction n with
  | zero => decide
  | succ n ih =>
    refine ⟨by omega, ?_⟩
    show gB (n + 1) ≤ gB (n + 1) * 1030 / 1000
    omega
theorem gB_mono : ∀ d n, gB n ≤ gB (n + d)
  | 0, n => Int.le_refl _
  | d + 1, n => by
    have h1 := gB_mono d n
    have h2 := (gB_up (n + d)).2
    rw [show n + (d + 1) = n + d + 1 by omega]; omega
theorem gB_150 {n : Nat} (h : n ≤ 150) : gB n ≤ 600000000 := by
  have h1 := gB_mono (150 - n) n
  rw [show n + (150 - n) = 150 by omega] at h1
  have h2 : gB 150 ≤ 600000000 := by decide +kernel
  omega
