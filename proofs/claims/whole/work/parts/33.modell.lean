/-! ===== the reference: where a change goes; what is told stays in bounds ===== -/
def mostT (t : Int32) : Int32 := if t = 0 then 400 else if t = 1 then 1200 else if t = 2 then 10 else if t = 3 then 30 else 200
theorem m_mostOf (t : Int32) : fnX10_mostOf t = some (mostT t) := by
  unfold fnX10_mostOf mostT
  by_cases c0 : t = 0
  · simp only [c0, ↓reduceIte]
  by_cases c1 : t = 1
  · subst c1; rfl
  by_cases c2 : t = 2
  · subst c2; rfl
  by_cases c3 : t = 3
  · subst c3; rfl
  simp only [c0, c1, c2, c3, ↓reduceIte]
def lstW (w : Nat → Int32) : Int32 := if w 3 = 0 then 0 else w (12 + 3 * (cS w - 1))
def crI (w : Nat → Int32) (v : Int32) : Int32 := if inI v 0 1799 = 0 then 0 else if v < w 0 then 0 else if v < lstW w then 0 else 1
def spT (p k : Int32) : Int32 := ((35 + 8 * k) + 2) + p
def plc (w : Nat → Int32) (p k v : Int32) : Int32 :=
  if inI p 10 14 = 0 then
    if p = 0 then (if v = -1 then 1 else if crI w v = 0 then -1 else 1)
    else if p = 6 then (if v = -1 then 2 else if inI v 0 1799 = 0 then -1 else if v ≤ w 0 then -1 else 2)
    else if inI p 1 5 = 0 then -1 else if inI k 0 (w 4 - 1) = 0 then -1 else
      if p = 4 then (if inI v 0 1799 = 0 then -1 else spT p k)
      else if p = 5 then (if v = -1 then spT p k else if inI v 0 1799 = 0 then -1 else if v ≤ w (35 + 8 * k.toNatClampNeg) then -1 else spT p k)
      else if w (37 + 8 * k.toNatClampNeg) = -1 then -1
      else if p = 2 then (if inI v 0 1 = 0 then -1 else spT p k) else (if inI v 0 1000 = 0 then -1 else spT p k)
  else if inI v 0 (mostT (p - 10)) = 0 then -1 else (6 + p) - 10
section ML
variable {mo : Nat} {iv : Nat → Int32} {ia : Nat → Nat → Int32} {la : Nat → Nat → Int64} {g : pz_H}
theorem m_lastService (hc : Cnt (ia 0)) : fnX10_lastService (MH mo iv ia la g) mo = some (lstW (ia 0)) := by
  unfold fnX10_lastService fX10_lastService_26 lstW
  simp only [mh_is, mh_g0, mh_g4, mh_g6, mh_g12, mh_g14, mh_g15, mh_g16, mh_g17, mh_g18, mh_g19, mh_g20, mh_r1, mh_r2, mh_r3, mh_r5, mh_r7, mh_r8, mh_r9, mh_r10, mh_r11, mh_r13, mh_r21, mh_s0, mh_s4, mh_s6, mh_s12, mh_s14, mh_s15, mh_s16, mh_s17, mh_s18, mh_s19, mh_s20, mh_w0, mh_w1, mh_w2, mh_w3, mh_w4, mh_w5, mh_w6, mh_w7, mh_w8, mh_w9, mh_w10, bs]
  by_cases c : ia 0 3 = 0
  · simp only [c, ↓reduceIte]
  · simp only [c, ↓reduceIte]
    have h := hc.1
    have h1 : 0 < cS (ia 0) := by
      rcases Nat.eq_zero_or_pos (cS (ia 0)) with q | q
      · exfalso; apply c; rw [h.1, q]; rfl
      · exact q
    have h2 : ia 0 3 - 1 = nI (cS (ia 0) - 1) := by
      have : cS (ia 0) = (cS (ia 0) - 1) + 1 := by omega
      rw [h.1, this, ← nI_1]
      have := Int32.add_sub_cancel (nI (cS (ia 0) - 1)) 1
      rw [this]; rfl
    simp only [m_sp1 h2 (show cS (ia 0) - 1 < 8 by omega), bs]
theorem m_canRetire (hc : Cnt (ia 0)) (v : Int32) : fnX10_canRetire (MH mo iv ia la g) mo v = some (crI (ia 0) v) := by
  unfold fnX10_canRetire fX10_canRetire_29 fX10_canRetire_30 crI
  simp only [mh_is, mh_g0, mh_g4, mh_g6, mh_g12, mh_g14, mh_g15, mh_g16, mh_g17, mh_g18, mh_g19, mh_g20, mh_r1, mh_r2, mh_r3, mh_r5, mh_r7, mh_r8, mh_r9, mh_r10, mh_r11, mh_r13, mh_r21, mh_s0, mh_s4, mh_s6, mh_s12, mh_s14, mh_s15, mh_s16, mh_s17, mh_s18, mh_s19, mh_s20, mh_w0, mh_w1, mh_w2, mh_w3, mh_w4, mh_w5, mh_w6, mh_w7, mh_w8, mh_w9, mh_w10, bs, m_isMonth, m_lastService hc, pb0, pb1]
  by_cases c1 : inI v 0 1799 = 0
  · simp only [c1, ↓reduceIte]
  simp only [c1, ↓reduceIte]
  by_cases c2 : v < ia 0 0
  · simp only [c2, ↓reduceIte]
  simp only [c2, ↓reduceIte]
  by_cases c3 : v < lstW (ia 0)
  · simp only [c3, ↓reduceIte]
  · simp only [c3, ↓reduceIte]
theorem m_placeOf (hv : Vld (ia 0)) (p k v : Int32) : fnX10_placeOf (MH mo iv ia la g) mo p k v = some (plc (ia 0) p k v) := by
  unfold fnX10_placeOf fX10_placeOf_37 fX10_placeOf_55 fX10_placeOf_60 fX10_placeOf_89 fX10_placeOf_93 fX10_placeOf_94 fX10_placeOf_112 fX10_placeOf_153 fX10_placeOf_157 fX10_placeOf_193 fX10_placeOf_183 fX10_placeOf_194 fX10_placeOf_216 plc
  have n1 : ¬ (1 : Int32) = 0 := by decide
  simp only [mh_is, mh_g0, mh_g4, mh_g6, mh_g12, mh_g14, mh_g15, mh_g16, mh_g17, mh_g18, mh_g19, mh_g20, mh_r1, mh_r2, mh_r3, mh_r5, mh_r7, mh_r8, mh_r9, mh_r10, mh_r11, mh_r13, mh_r21, mh_s0, mh_s4, mh_s6, mh_s12, mh_s14, mh_s15, mh_s16, mh_s17, mh_s18, mh_s19, mh_s20, mh_w0, mh_w1, mh_w2, mh_w3, mh_w4, mh_w5, mh_w6, mh_w7, mh_w8, mh_w9, mh_w10, bs, m_in, m_isMonth, m_isSpouse, m_canRetire hv.c, m_mostOf]
  by_cases c0 : inI p 10 14 = 0
  · simp only [c0, ↓reduceIte]
    by_cases c1 : p = 0
    · simp only [c1, ↓reduceIte]
      by_cases d1 : v = -1
      · simp only [d1, ↓reduceIte]
      simp only [d1, ↓reduceIte]
      by_cases d2 : crI (ia 0) v = 0
      · simp only [d2, ↓reduceIte]
      · simp only [d2, ↓reduceIte]
    simp only [c1, ↓reduceIte]
    by_cases c2 : p = 6
    · simp only [c2, ↓reduceIte]
      by_cases d1 : v = -1
      · simp only [d1, ↓reduceIte]
      simp only [d1, ↓reduceIte]
      by_cases d2 : inI v 0 1799 = 0
      · simp only [d2, ↓reduceIte]
      simp only [d2, ↓reduceIte]
      by_cases d3 : v ≤ ia 0 0
      · simp only [d3, ↓reduceIte]
      · simp only [d3, ↓reduceIte]
    simp only [c2, ↓reduceIte]
    by_cases c3 : inI p 1 5 = 0
    · simp only [c3, ↓reduceIte]
    simp only [c3, ↓reduceIte]
    by_cases c4 : inI k 0 (ia 0 4 - 1) = 0
    · simp only [c4, ↓reduceIte]
    simp only [c4, ↓reduceIte]
    obtain ⟨p1, p2⟩ := spo_of hv c4
    have hk4 := hv.p4 p2
    simp only [m_its0 p1 hk4, m_isParted p1 hk4, bs]
    by_cases c5 : p = 4
    · simp only [c5, ↓reduceIte]
      by_cases d2 : inI v 0 1799 = 0
      · simp only [d2, ↓reduceIte]
      · simp only [d2, ↓reduceIte]; rfl
    simp only [c5, ↓reduceIte]
    by_cases c6 : p = 5
    · simp only [c6, ↓reduceIte]
      by_cases d1 : v = -1
      · simp only [d1, ↓reduceIte, n1]; rfl
      simp only [d1, ↓reduceIte]
      by_cases d2 : inI v 0 1799 = 0
      · simp only [d2, ↓reduceIte]
      simp only [d2, ↓reduceIte]
      by_cases d3 : v ≤ ia 0 (35 + 8 * k.toNatClampNeg)
      · simp only [d3, ↓reduceIte]
      · simp only [d3, ↓reduceIte, n1]; rfl
    simp only [c6, ↓reduceIte]
    by_cases c7 : ia 0 (37 + 8 * k.toNatClampNeg) = -1
    · simp only [c7, ↓reduceIte]
    simp only [c7, ↓reduceIte, n1]
    by_cases c8 : p = 2
    · simp only [c8, ↓reduceIte]
      by_cases d2 : inI v 0 1 = 0
      · simp only [d2, ↓reduceIte]; rfl
      · simp only [d2, ↓reduceIte, n1]; rfl
    simp only [c8, ↓reduceIte]
    by_cases d2 : inI v 0 1000 = 0
    · simp only [d2, ↓reduceIte]; rfl
    · simp only [d2, ↓reduceIte, n1]; rfl
  · simp only [c0, ↓reduceIte]
    by_cases d2 : inI v 0 (mostT (p - 10)) = 0
    · simp only [d2, ↓reduceIte]
    · simp only [d2, ↓reduceIte]
end ML
/-- what is told, by its first 87 places -/
theorem Vld_cg {w w' : Nat → Int32} (hv : Vld w) (heq : ∀ j, j < 87 → w' j = w j) : Vld w' := by
  have h4 := hv.1.2.1.2
  have hY := hv.1.2.2.2
  obtain ⟨hc, h0, h1, h2, t6, t7, t8, t9, t10, sp, so, p, pl, y1, y2, y3⟩ := hv
  have e0 := heq 0 (by omega)
  have e1 := heq 1 (by omega)
  have e2 := heq 2 (by omega)
  have eS : cS w' = cS w := by unfold cS; rw [heq 3 (by omega)]
  have eP : cP w' = cP w := by unfold cP; rw [heq 4 (by omega)]
  have eY : cY w' = cY w := by unfold cY; rw [heq 5 (by omega)]
  have h8 := hc.1.2
  refine ⟨?_, by rw [e0]; exact h0, ?_, by rw [e0, e2]; exact h2, by rw [heq 6 (by omega)]; exact t6, by rw [heq 7 (by omega)]; exact t7, by rw [heq 8 (by omega)]; exact t8, by rw [heq 9 (by omega)]; exact t9, by rw [heq 10 (by omega)]; exact t10, ?_, ?_, ?_, ?_, ?_, ?_, ?_⟩
  · unfold Cnt
    rw [eS, eP, eY, heq 3 (by omega), heq 4 (by omega), heq 5 (by omega)]
    exact hc
  · rw [e0, e1, eS]
    rcases h1 with h1 | ⟨a, b, c⟩
    · exact Or.inl h1
    · exact Or.inr ⟨a, b, fun k hk => by rw [heq (12 + 3 * k) (by omega)]; exact c k hk⟩
  · intro k hk
    rw [eS] at hk
    rw [e0, heq (11 + 3 * k) (by omega), heq (12 + 3 * k) (by omega), heq (13 + 3 * k) (by omega)]
    exact sp k hk
  · intro k hk
    rw [eS] at hk
    rw [heq (12 + 3 * k) (by omega), heq (11 + 3 * (k + 1)) (by omega)]
    exact so k hk
  · intro k hk
    rw [eP] at hk
    rw [heq (35 + 8 * k) (by omega), heq (36 + 8 * k) (by omega), heq (37 + 8 * k) (by omega), heq (38 + 8 * k) (by omega), heq (39 + 8 * k) (by omega), heq (40 + 8 * k) (by omega), heq (41 + 8 * k) (by omega), heq (42 + 8 * k) (by omega)]
    exact p k hk
  · intro k hk
    rw [eP] at hk
    rw [heq (37 + 8 * k) (by omega)]
    exact pl k hk
  · intro i hi
    rw [eY] at hi
    rw [heq (67 + 2 * i) (by omega), heq (68 + 2 * i) (by omega)]
    exact y1 i hi
  · intro i j hi hj
    rw [eY] at hi hj
    rw [heq (67 + 2 * i) (by omega), heq (67 + 2 * j) (by omega)]
    exact y2 i j hi hj
  · intro i j hi hj
    rw [eY] at hi hj
    rw [heq (67 + 2 * i) (by omega), heq (67 + 2 * j) (by omega), heq (68 + 2 * i) (by omega), heq (68 + 2 * j) (by omega)]
    exact y3 i j hi hj
theorem Vld_bgW {b : Int32} (h0 : 0 ≤ b.toInt) (h1 : b.toInt ≤ 1799) : Vld (bgW b) := by
  have eS : cS (bgW b) = 0 := rfl
  have eP : cP (bgW b) = 0 := rfl
  have eY : cY (bgW b) = 0 := rfl
  refine ⟨⟨⟨rfl, by rw [eS]; omega⟩, ⟨rfl, by rw [eP]; omega⟩, ⟨rfl, by rw [eY]; omega⟩⟩, ⟨h0, h1⟩, Or.inl rfl, Or.inl rfl, (show 0 ≤ (200 : Int32).toInt ∧ (200 : Int32).toInt ≤ 400 by decide), (show 0 ≤ (780 : Int32).toInt ∧ (780 : Int32).toInt ≤ 1200 by decide), (show 0 ≤ (3 : Int32).toInt ∧ (3 : Int32).toInt ≤ 10 by decide), (show 0 ≤ (20 : Int32).toInt ∧ (20 : Int32).toInt ≤ 30 by decide), (show 0 ≤ (30 : Int32).toInt ∧ (30 : Int32).toInt ≤ 200 by decide), ?_, ?_, ?_, ?_, ?_, ?_, ?_⟩
  · intro k hk; rw [eS] at hk; omega
  · intro k hk; rw [eS] at hk; omega
  · intro k hk; rw [eP] at hk; omega
  · intro k hk; rw [eP] at hk; omega
  · intro k hk; rw [eY] at hk; omega
  · intro k j hk; rw [eY] at hk; omega
  · intro k j hk; rw [eY] at hk; omega
/-- a change of what stands at 1, 2, 6 to 10 -/
theorem Vld_low {w w' : Nat → Int32} (hv : Vld w) (heq : ∀ j, j = 0 ∨ (2 < j ∧ j < 6) ∨ 10 < j → w' j = w j)
    (h1 : w' 1 = -1 ∨ ((w 0).toInt ≤ (w' 1).toInt ∧ (w' 1).toInt ≤ 1799 ∧ ∀ k, k < cS w → (w (12 + 3 * k)).toInt ≤ (w' 1).toInt))
    (h2 : w' 2 = -1 ∨ ((w 0).toInt < (w' 2).toInt ∧ (w' 2).toInt ≤ 1799))
    (t6 : 0 ≤ (w' 6).toInt ∧ (w' 6).toInt ≤ 400) (t7 : 0 ≤ (w' 7).toInt ∧ (w' 7).toInt ≤ 1200) (t8 : 0 ≤ (w' 8).toInt ∧ (w' 8).toInt ≤ 10) (t9 : 0 ≤ (w' 9).toInt ∧ (w' 9).toInt ≤ 30) (t10 : 0 ≤ (w' 10).toInt ∧ (w' 10).toInt ≤ 200) : Vld w' := by
  have h4 := hv.1.2.1.2
  have hY := hv.1.2.2.2
  obtain ⟨hc, h0, -, -, -, -, -, -, -, sp, so, p, pl, y1, y2, y3⟩ := hv
  have e0 := heq 0 (by omega)
  have eS : cS w' = cS w := by unfold cS; rw [heq 3 (by omega)]
  have eP : cP w' = cP w := by unfold cP; rw [heq 4 (by omega)]
  have eY : cY w' = cY w := by unfold cY; rw [heq 5 (by omega)]
  have h8 := hc.1.2
  refine ⟨?_, by rw [e0]; exact h0, ?_, by rw [e0]; exact h2, t6, t7, t8, t9, t10, ?_, ?_, ?_, ?_, ?_, ?_, ?_⟩
  · unfold Cnt
    rw [eS, eP, eY, heq 3 (by omega), heq 4 (by omega), heq 5 (by omega)]
    exact hc
  · rw [e0, eS]
    rcases h1 with h1 | ⟨a, b, c⟩
    · exact Or.inl h1
    · exact Or.inr ⟨a, b, fun k hk => by rw [heq (12 + 3 * k) (by omega)]; exact c k hk⟩
  · intro k hk
    rw [eS] at hk
    rw [e0, heq (11 + 3 * k) (by omega), heq (12 + 3 * k) (by omega), heq (13 + 3 * k) (by omega)]
    exact sp k hk
  · intro k hk
    rw [eS] at hk
    rw [heq (12 + 3 * k) (by omega), heq (11 + 3 * (k + 1)) (by omega)]
    exact so k hk
  · intro k hk
    rw [eP] at hk
    rw [heq (35 + 8 * k) (by omega), heq (36 + 8 * k) (by omega), heq (37 + 8 * k) (by omega), heq (38 + 8 * k) (by omega), heq (39 + 8 * k) (by omega), heq (40 + 8 * k) (by omega), heq (41 + 8 * k) (by omega), heq (42 + 8 * k) (by omega)]
    exact p k hk
  · intro k hk
    rw [eP] at hk
    rw [heq (37 + 8 * k) (by omega)]
    exact pl k hk
  · intro i hi
    rw [eY] at hi
    rw [heq (67 + 2 * i) (by omega), heq (68 + 2 * i) (by omega)]
    exact y1 i hi
  · intro i j hi hj
    rw [eY] at hi hj
    rw [heq (67 + 2 * i) (by omega), heq (67 + 2 * j) (by omega)]
    exact y2 i j hi hj
  · intro i j hi hj
    rw [eY] at hi hj
    rw [heq (67 + 2 * i) (by omega), heq (67 + 2 * j) (by omega), heq (68 + 2 * i) (by omega), heq (68 + 2 * j) (by omega)]
    exact y3 i j hi hj
theorem inI_of {v lo hi : Int32} (h : ¬ inI v lo hi = 0) : lo.toInt ≤ v.toInt ∧ v.toInt ≤ hi.toInt := by
  rw [inI_0, i32_lt, i32_lt] at h; omega
theorem span_up {w : Nat → Int32} (hv : Vld w) : ∀ d k, k + d < cS w → (w (12 + 3 * k)).toInt ≤ (w (12 + 3 * (k + d))).toInt
  | 0, k, _ => Int.le_refl _
  | d + 1, k, h => by
    have h1 := span_up hv d k (by omega)
    have h2 := hv.2.2.2.2.2.2.2.2.2.2.1 (k + d) (by omega)
    have h3 := (hv.2.2.2.2.2.2.2.2.2.1 (k + d + 1) (by omega)).2.1
    have e : k + (d + 1) = k + d + 1 := by omega
    rw [e]; omega
theorem lst_up {w : Nat → Int32} (hv : Vld w) {k : Nat} (hk : k < cS w) : (w (12 + 3 * k)).toInt ≤ (lstW w).toInt := by
  unfold lstW
  have h := hv.1.1
  rw [if_neg (by rw [h.1, i32_eq, nI_toInt (by omega), z32]; omega)]
  have := span_up hv (cS w - 1 - k) k (by omega)
  rw [show k + (cS w - 1 - k) = cS w - 1 by omega] at this
  exact this
/-- where a change goes -/
def plT (w : Nat → Int32) (p k v : Int32) (t : Nat) : Prop :=
  (t = 1 ∧ (v = -1 ∨ ¬ crI w v = 0)) ∨ (t = 2 ∧ (v = -1 ∨ ((w 0).toInt < v.toInt ∧ v.toInt ≤ 1799))) ∨
  (6 ≤ t ∧ t ≤ 10 ∧ p = nI (t + 4) ∧ 0 ≤ v.toInt ∧ v.toInt ≤ (mostT (nI (t - 6))).toInt) ∨
  (∃ q, q < cP w ∧ k = nI q ∧ ∃ o, p = nI o ∧ t = 37 + 8 * q + o ∧ (((o = 1 ∨ o = 3) ∧ ¬ w (37 + 8 * q) = -1 ∧ 0 ≤ v.toInt ∧ v.toInt ≤ 1000) ∨ (o = 2 ∧ ¬ w (37 + 8 * q) = -1 ∧ (v = 0 ∨ v = 1)) ∨ (o = 4 ∧ 0 ≤ v.toInt ∧ v.toInt ≤ 1799) ∨ (o = 5 ∧ (v = -1 ∨ ((w (35 + 8 * q)).toInt < v.toInt ∧ v.toInt ≤ 1799)))))
theorem spT_nI {k p : Int32} {q o : Nat} (hk : k = nI q) (hp : p = nI o) : spT p k = nI (37 + 8 * q + o) := by
  subst hk hp
  unfold spT
  rw [show (35 : Int32) = nI 35 from rfl, show (8 : Int32) = nI 8 from rfl, show (2 : Int32) = nI 2 from rfl, pk_mul, nI_add, nI_add, nI_add, show 35 + 8 * q + 2 + o = 37 + 8 * q + o by omega]
theorem plc_of {w : Nat → Int32} (hv : Vld w) {p k v : Int32} (h : ¬ plc w p k v = -1) : ∃ t, plc w p k v = nI t ∧ t < 67 ∧ plT w p k v t := by
  unfold plc at h ⊢
  have x1799 : (1799 : Int32).toInt = 1799 := rfl
  by_cases c0 : inI p 10 14 = 0
  · rw [if_pos c0] at h ⊢
    by_cases c1 : p = 0
    · rw [if_pos c1] at h ⊢
      by_cases d1 : v = -1
      · rw [if_pos d1]; exact ⟨1, rfl, by omega, Or.inl ⟨rfl, Or.inl d1⟩⟩
      rw [if_neg d1] at h ⊢
      by_cases d2 : crI w v = 0
      · rw [if_pos d2] at h; exact absurd rfl h
      · rw [if_neg d2]; exact ⟨1, rfl, by omega, Or.inl ⟨rfl, Or.inr d2⟩⟩
    rw [if_neg c1] at h ⊢
    by_cases c2 : p = 6
    · rw [if_pos c2] at h ⊢
      by_cases d1 : v = -1
      · rw [if_pos d1]; exact ⟨2, rfl, by omega, Or.inr (Or.inl ⟨rfl, Or.inl d1⟩)⟩
      rw [if_neg d1] at h ⊢
      by_cases d2 : inI v 0 1799 = 0
      · rw [if_pos d2] at h; exact absurd rfl h
      rw [if_neg d2] at h ⊢
      by_cases d3 : v ≤ w 0
      · rw [if_pos d3] at h; exact absurd rfl h
      · rw [if_neg d3]
        have := inI_of d2
        rw [i32_le] at d3
        exact ⟨2, rfl, by omega, Or.inr (Or.inl ⟨rfl, Or.inr ⟨by omega, by omega⟩⟩)⟩
    rw [if_neg c2] at h ⊢
    by_cases c3 : inI p 1 5 = 0
    · rw [if_pos c3] at h; exact absurd rfl h
    rw [if_neg c3] at h ⊢
    by_cases c4 : inI k 0 (w 4 - 1) = 0
    · rw [if_pos c4] at h; exact absurd rfl h
    rw [if_neg c4] at h ⊢
    obtain ⟨k1, k2⟩ := spo_of hv c4
    have hk4 := hv.p4 k2
    have hp := inI_of c3
    have x1 : (1 : Int32).toInt = 1 := rfl
    have x5 : (5 : Int32).toInt = 5 := rfl
    obtain ⟨p1, p2⟩ := nI_clampI (x := p) (by omega)
    have hT := spT_nI k1 p1
    have fin : plT w p k v (37 + 8 * k.toNatClampNeg + p.toNatClampNeg) → ∃ t, spT p k = nI t ∧ t < 67 ∧ plT w p k v t := fun z => ⟨_, hT, by omega, z⟩
    by_cases c5 : p = 4
    · rw [if_pos c5] at h ⊢
      by_cases d2 : inI v 0 1799 = 0
      · rw [if_pos d2] at h; exact absurd rfl h
      · rw [if_neg d2]
        have := inI_of d2
        have q4 : p.toNatClampNeg = 4 := by rw [c5]; rfl
        exact fin (Or.inr (Or.inr (Or.inr ⟨_, k2, k1, 4, c5, by omega, Or.inr (Or.inr (Or.inl ⟨rfl, by rw [z32] at this; omega, by omega⟩))⟩)))
    rw [if_neg c5] at h ⊢
    by_cases c6 : p = 5
    · rw [if_pos c6] at h ⊢
      have q5 : p.toNatClampNeg = 5 := by rw [c6]; rfl
      by_cases d1 : v = -1
      · rw [if_pos d1]
        exact fin (Or.inr (Or.inr (Or.inr ⟨_, k2, k1, 5, c6, by omega, Or.inr (Or.inr (Or.inr ⟨rfl, Or.inl d1⟩))⟩)))
      rw [if_neg d1] at h ⊢
      by_cases d2 : inI v 0 1799 = 0
      · rw [if_pos d2] at h; exact absurd rfl h
      rw [if_neg d2] at h ⊢
      by_cases d3 : v ≤ w (35 + 8 * k.toNatClampNeg)
      · rw [if_pos d3] at h; exact absurd rfl h
      · rw [if_neg d3]
        have := inI_of d2
        rw [i32_le] at d3
        exact fin (Or.inr (Or.inr (Or.inr ⟨_, k2, k1, 5, c6, by omega, Or.inr (Or.inr (Or.inr ⟨rfl, Or.inr ⟨by omega, by omega⟩⟩))⟩)))
    rw [if_neg c6] at h ⊢
    by_cases c7 : w (37 + 8 * k.toNatClampNeg) = -1
    · rw [if_pos c7] at h; exact absurd rfl h
    rw [if_neg c7] at h ⊢
    by_cases c8 : p = 2
    · rw [if_pos c8] at h ⊢
      have q2 : p.toNatClampNeg = 2 := by rw [c8]; rfl
      by_cases d2 : inI v 0 1 = 0
      · rw [if_pos d2] at h; exact absurd rfl h
      · rw [if_neg d2]
        have := inI_of d2
        rw [z32, x1] at this
        refine fin (Or.inr (Or.inr (Or.inr ⟨_, k2, k1, 2, c8, by omega, Or.inr (Or.inl ⟨rfl, c7, ?_⟩)⟩)))
        rw [i32_eq, i32_eq, z32, x1]; omega
    rw [if_neg c8] at h ⊢
    by_cases d2 : inI v 0 1000 = 0
    · rw [if_pos d2] at h; exact absurd rfl h
    · rw [if_neg d2]
      have := inI_of d2
      have x1000 : (1000 : Int32).toInt = 1000 := rfl
      rw [z32, x1000] at this
      have hn4 : ¬ p.toInt = 4 := fun z => c5 (by rw [i32_eq, z]; rfl)
      have hn5 : ¬ p.toInt = 5 := fun z => c6 (by rw [i32_eq, z]; rfl)
      have hn2 : ¬ p.toInt = 2 := fun z => c8 (by rw [i32_eq, z]; rfl)
      exact fin (Or.inr (Or.inr (Or.inr ⟨_, k2, k1, p.toNatClampNeg, p1, rfl, Or.inl ⟨by omega, c7, this.1, this.2⟩⟩)))
  · rw [if_neg c0] at h ⊢
    by_cases d2 : inI v 0 (mostT (p - 10)) = 0
    · rw [if_pos d2] at h; exact absurd rfl h
    · rw [if_neg d2]
      have hp := inI_of c0
      have x10 : (10 : Int32).toInt = 10 := rfl
      have x14 : (14 : Int32).toInt = 14 := rfl
      have x6 : (6 : Int32).toInt = 6 := rfl
      obtain ⟨p1, p2⟩ := nI_clampI (x := p) (by omega)
      have e1 : (6 + p) - 10 = nI (p.toNatClampNeg - 4) := by
        rw [i32_eq, nI_toInt (by omega), i32_sub (by rw [i32_add (by omega) (by omega)]; omega) (by rw [i32_add (by omega) (by omega)]; omega), i32_add (by omega) (by omega)]
        omega
      have e2 : p - 10 = nI (p.toNatClampNeg - 4 - 6) := by
        rw [i32_eq, nI_toInt (by omega), i32_sub (by omega) (by omega)]
        omega
      have := inI_of d2
      rw [e2] at this
      refine ⟨_, e1, by omega, Or.inr (Or.inr (Or.inl ⟨by omega, by omega, ?_, this.1, this.2⟩))⟩
      rw [show p.toNatClampNeg - 4 + 4 = p.toNatClampNeg by omega]; exact p1
/-- what is told stays in bounds behind a change -/
theorem Vld_set {w : Nat → Int32} (hv : Vld w) {p k v : Int32} {t : Nat} (ht : plT w p k v t) : Vld (upd w t v) := by
  have h4 := hv.1.2.1.2
  have low : t = 1 ∨ t = 2 ∨ (6 ≤ t ∧ t ≤ 10) →
      (t = 1 → v = -1 ∨ ((w 0).toInt ≤ v.toInt ∧ v.toInt ≤ 1799 ∧ ∀ k, k < cS w → (w (12 + 3 * k)).toInt ≤ v.toInt)) →
      (t = 2 → v = -1 ∨ ((w 0).toInt < v.toInt ∧ v.toInt ≤ 1799)) →
      (6 ≤ t ∧ t ≤ 10 → 0 ≤ v.toInt ∧ v.toInt ≤ (mostT (nI (t - 6))).toInt) → Vld (upd w t v) := by
    intro hlow g1 g2 g3
    obtain ⟨-, -, h1, h2, t6, t7, t8, t9, t10, -⟩ := id hv
    have one : ∀ (j : Nat) (P : Int32 → Prop), P (w j) → (t = j → P v) → P (upd w t v j) := by
      intro j P a b
      by_cases e : j = t
      · subst e; rw [upd_s]; exact b rfl
      · rw [upd_n e]; exact a
    refine Vld_low hv (fun j hj => upd_n (by omega)) ?_ ?_ ?_ ?_ ?_ ?_ ?_
    · exact one 1 (fun x => x = -1 ∨ ((w 0).toInt ≤ x.toInt ∧ x.toInt ≤ 1799 ∧ ∀ k, k < cS w → (w (12 + 3 * k)).toInt ≤ x.toInt)) h1 g1
    · exact one 2 (fun x => x = -1 ∨ ((w 0).toInt < x.toInt ∧ x.toInt ≤ 1799)) h2 g2
    · exact one 6 (fun x => 0 ≤ x.toInt ∧ x.toInt ≤ 400) t6 (fun e => by subst e; exact g3 (by omega))
    · exact one 7 (fun x => 0 ≤ x.toInt ∧ x.toInt ≤ 1200) t7 (fun e => by subst e; exact g3 (by omega))
    · exact one 8 (fun x => 0 ≤ x.toInt ∧ x.toInt ≤ 10) t8 (fun e => by subst e; exact g3 (by omega))
    · exact one 9 (fun x => 0 ≤ x.toInt ∧ x.toInt ≤ 30) t9 (fun e => by subst e; exact g3 (by omega))
    · exact one 10 (fun x => 0 ≤ x.toInt ∧ x.toInt ≤ 200) t10 (fun e => by subst e; exact g3 (by omega))
  rcases ht with ⟨e, h⟩ | ⟨e, h⟩ | ⟨e1, e2, e3, h⟩ | ⟨q, hq, hk, o, hp, e, h⟩
  · refine low (Or.inl e) (fun _ => ?_) (fun z => by omega) (fun z => by omega)
    rcases h with h | h
    · exact Or.inl h
    · right
      unfold crI at h
      by_cases d1 : inI v 0 1799 = 0
      · rw [if_pos d1] at h; exact absurd rfl h
      rw [if_neg d1] at h
      by_cases d2 : v < w 0
      · rw [if_pos d2] at h; exact absurd rfl h
      rw [if_neg d2] at h
      by_cases d3 : v < lstW w
      · rw [if_pos d3] at h; exact absurd rfl h
      have a := inI_of d1
      have x1799 : (1799 : Int32).toInt = 1799 := rfl
      rw [i32_lt] at d2 d3
      exact ⟨by omega, by omega, fun k hk => by have := lst_up hv hk; omega⟩
  · exact low (Or.inr (Or.inl e)) (fun z => by omega) (fun _ => h) (fun z => by omega)
  · exact low (Or.inr (Or.inr ⟨e1, e2⟩)) (fun z => by omega) (fun z => by omega) (fun _ => h)
  · subst e
    have ho : 1 ≤ o ∧ o ≤ 5 := by rcases h with ⟨a, _⟩ | ⟨a, _⟩ | ⟨a, _⟩ | ⟨a, _⟩ <;> omega
    refine Vld_sp hv (fun j hj => upd_n (by omega)) (fun r hr => ?_) (fun r hr => ?_)
    · have hr4 := hv.p4 hr
      obtain ⟨a1, a2, a3, a4, a5, a6, a7, a8⟩ := hv.sp hr
      by_cases er : r = q
      · subst er
        unfold SpOK
        rw [upd_n (j := 35 + 8 * r) (by omega), upd_n (j := 36 + 8 * r) (by omega), upd_n (j := 37 + 8 * r) (by omega)]
        rcases h with ⟨hh, hpt, v0, v1⟩ | ⟨hh, hpt, v0⟩ | ⟨hh, v0, v1⟩ | ⟨hh, v0⟩
        · have a3' := a3.resolve_left (fun z => hpt z.1)
          rcases hh with hh | hh <;> subst hh
          · rw [show 37 + 8 * r + 1 = 38 + 8 * r by omega, upd_s, upd_n (j := 39 + 8 * r) (by omega), upd_n (j := 40 + 8 * r) (by omega), upd_n (j := 41 + 8 * r) (by omega), upd_n (j := 42 + 8 * r) (by omega)]
            exact ⟨a1, a2, Or.inr a3', ⟨v0, v1⟩, a5, a6, a7, a8⟩
          · rw [show 37 + 8 * r + 3 = 40 + 8 * r by omega, upd_s, upd_n (j := 39 + 8 * r) (by omega), upd_n (j := 38 + 8 * r) (by omega), upd_n (j := 41 + 8 * r) (by omega), upd_n (j := 42 + 8 * r) (by omega)]
            exact ⟨a1, a2, Or.inr a3', a4, a5, ⟨v0, v1⟩, a7, a8⟩
        · have a3' := a3.resolve_left (fun z => hpt z.1)
          subst hh
          rw [show 37 + 8 * r + 2 = 39 + 8 * r by omega, upd_s, upd_n (j := 38 + 8 * r) (by omega), upd_n (j := 40 + 8 * r) (by omega), upd_n (j := 41 + 8 * r) (by omega), upd_n (j := 42 + 8 * r) (by omega)]
          exact ⟨a1, a2, Or.inr a3', a4, v0, a6, a7, a8⟩
        · subst hh
          rw [show 37 + 8 * r + 4 = 41 + 8 * r by omega, upd_s, upd_n (j := 38 + 8 * r) (by omega), upd_n (j := 39 + 8 * r) (by omega), upd_n (j := 40 + 8 * r) (by omega), upd_n (j := 42 + 8 * r) (by omega)]
          exact ⟨a1, a2, a3, a4, a5, a6, ⟨v0, v1⟩, a8⟩
        · subst hh
          rw [show 37 + 8 * r + 5 = 42 + 8 * r by omega, upd_s, upd_n (j := 38 + 8 * r) (by omega), upd_n (j := 39 + 8 * r) (by omega), upd_n (j := 40 + 8 * r) (by omega), upd_n (j := 41 + 8 * r) (by omega)]
          exact ⟨a1, a2, a3, a4, a5, a6, a7, v0⟩
      · unfold SpOK
        rw [upd_n (j := 35 + 8 * r) (by omega), upd_n (j := 36 + 8 * r) (by omega), upd_n (j := 37 + 8 * r) (by omega), upd_n (j := 38 + 8 * r) (by omega), upd_n (j := 39 + 8 * r) (by omega), upd_n (j := 40 + 8 * r) (by omega), upd_n (j := 41 + 8 * r) (by omega), upd_n (j := 42 + 8 * r) (by omega)]
        exact ⟨a1, a2, a3, a4, a5, a6, a7, a8⟩
    · have hr4 := hv.p4 (show r < cP w by omega)
      rw [upd_n (by omega)]; exact hv.2.2.2.2.2.2.2.2.2.2.2.2.1 r hr
section ML2
variable {mo : Nat} {iv : Nat → Int32} {ia : Nat → Nat → Int32} {la : Nat → Nat → Int64} {g : pz_H}
theorem m_set (hv : Vld (ia 0)) {n : Nat} (hn : iv 4 = nI n) (h12 : n ≤ 12) (p k v : Int32) : (plc (ia 0) p k v = -1 ∧ fnX10_set (MH mo iv ia la g) mo p k v = some (0, MH mo (va_up iv 0 0) ia la g)) ∨ ∃ t, plc (ia 0) p k v = nI t ∧ t < 67 ∧ plT (ia 0) p k v t ∧ ((ia 0 t = v ∧ fnX10_set (MH mo iv ia la g) mo p k v = some (0, MH mo (va_up iv 0 0) ia la g)) ∨ (¬ ia 0 t = v ∧ ∃ iv' c', fnX10_set (MH mo iv ia la g) mo p k v = some (1, MH mo iv' (va_up (va_up ia 1 c') 0 (upd (ia 0) t v)) la g) ∧ KpR (ia 1) n (ia 0) c' ∧ iv' 4 = nI (kpN n) ∧ iv' 6 = 0 ∧ ∀ k, k ≠ 0 → k ≠ 4 → k ≠ 6 → iv' k = iv k)) := by
  unfold fnX10_set fX10_set_31
  simp only [mh_is, mh_g0, mh_g4, mh_g6, mh_g12, mh_g14, mh_g15, mh_g16, mh_g17, mh_g18, mh_g19, mh_g20, mh_r1, mh_r2, mh_r3, mh_r5, mh_r7, mh_r8, mh_r9, mh_r10, mh_r11, mh_r13, mh_r21, mh_s0, mh_s4, mh_s6, mh_s12, mh_s14, mh_s15, mh_s16, mh_s17, mh_s18, mh_s19, mh_s20, mh_w0, mh_w1, mh_w2, mh_w3, mh_w4, mh_w5, mh_w6, mh_w7, mh_w8, mh_w9, mh_w10, bs, m_placeOf hv, pb0, pb1]
  by_cases c1 : plc (ia 0) p k v = -1
  · left; simp only [c1, ↓reduceIte, and_self]
  · right
    simp only [c1, ↓reduceIte]
    obtain ⟨t, e1, e2, e3⟩ := plc_of hv c1
    refine ⟨t, e1, e2, e3, ?_⟩
    rw [mh_i0 e1 (by omega), bs]
    by_cases c2 : ia 0 t = v
    · left; refine ⟨c2, ?_⟩; rw [if_pos c2]
    · right; refine ⟨c2, ?_⟩; rw [if_neg c2]
      obtain ⟨iv1, c', a1, a2, a3, a4⟩ := m_keeps0 (mo := mo) (iv := va_up iv 0 0) (ia := ia) (la := la) (g := g) (n := n) (by rw [up_n (by decide)]; exact hn) h12
      rw [a1, bs, mh_r1, bs, mh_t0 e1 (by omega), bs, mh_s6, bs]
      refine ⟨_, c', rfl, a2, ?_, up_s, ?_⟩
      · rw [up_n (by decide)]; exact a3
      · intro k h0 h4 h6; rw [up_n h6, a4 k h4, up_n h0]
end ML2
