/-! ===== claims and portions tried: what stays ===== -/
def SpOK (w : Nat → Int32) (k : Nat) : Prop := (0 ≤ (w (35 + 8 * k)).toInt ∧ (w (35 + 8 * k)).toInt ≤ 1799) ∧ (0 ≤ (w (36 + 8 * k)).toInt ∧ (w (36 + 8 * k)).toInt ≤ 1799) ∧
    ((w (37 + 8 * k) = -1 ∧ w (38 + 8 * k) = 0 ∧ w (39 + 8 * k) = 0 ∧ w (40 + 8 * k) = 0) ∨ ((w (36 + 8 * k)).toInt < (w (37 + 8 * k)).toInt ∧ (w (37 + 8 * k)).toInt ≤ 1799)) ∧
    (0 ≤ (w (38 + 8 * k)).toInt ∧ (w (38 + 8 * k)).toInt ≤ 1000) ∧ (w (39 + 8 * k) = 0 ∨ w (39 + 8 * k) = 1) ∧ (0 ≤ (w (40 + 8 * k)).toInt ∧ (w (40 + 8 * k)).toInt ≤ 1000) ∧ (0 ≤ (w (41 + 8 * k)).toInt ∧ (w (41 + 8 * k)).toInt ≤ 1799) ∧
    (w (42 + 8 * k) = -1 ∨ ((w (35 + 8 * k)).toInt < (w (42 + 8 * k)).toInt ∧ (w (42 + 8 * k)).toInt ≤ 1799))
theorem Vld.sp {w : Nat → Int32} (hv : Vld w) {k : Nat} (hk : k < cP w) : SpOK w k := hv.2.2.2.2.2.2.2.2.2.2.2.1 k hk
theorem Vld_sp {w w' : Nat → Int32} (hv : Vld w) (heq : ∀ j, (j < 35 ∨ 67 ≤ j) → w' j = w j) (hs : ∀ k, k < cP w → SpOK w' k) (hl : ∀ k, k + 1 < cP w → ¬ w' (37 + 8 * k) = -1) : Vld w' := by
  obtain ⟨hc, h0, h1, h2, t6, t7, t8, t9, t10, sp, so, p, pl, y1, y2, y3⟩ := hv
  have e0 := heq 0 (by omega)
  have e1 := heq 1 (by omega)
  have e2 := heq 2 (by omega)
  have eS : cS w' = cS w := by unfold cS; rw [heq 3 (by omega)]
  have eP : cP w' = cP w := by unfold cP; rw [heq 4 (by omega)]
  have eY : cY w' = cY w := by unfold cY; rw [heq 5 (by omega)]
  have h8 := hc.1.2
  refine ⟨?_, by rw [e0]; exact h0, ?_, by rw [e0, e2]; exact h2, by rw [heq 6 (by omega)]; exact t6, by rw [heq 7 (by omega)]; exact t7, by rw [heq 8 (by omega)]; exact t8, by rw [heq 9 (by omega)]; exact t9, by rw [heq 10 (by omega)]; exact t10, ?_, ?_, ?_, ?_, ?_, ?_, ?_⟩
  · unfold Cnt
    rw [eS, eP, eY, heq 3 (by omega), heq 4 (by omega), heq 5 (by omega)]
    exact hc
  · rw [e0, e1, eS]
    rcases h1 with h1 | ⟨a, b, c⟩
    · exact Or.inl h1
    · exact Or.inr ⟨a, b, fun k hk => by rw [heq (12 + 3 * k) (by omega)]; exact c k hk⟩
  · intro k hk
    rw [eS] at hk
    rw [e0, heq (11 + 3 * k) (by omega), heq (12 + 3 * k) (by omega), heq (13 + 3 * k) (by omega)]
    exact sp k hk
  · intro k hk
    rw [eS] at hk
    rw [heq (12 + 3 * k) (by omega), heq (11 + 3 * (k + 1)) (by omega)]
    exact so k hk
  · intro k hk
    rw [eP] at hk
    exact hs k hk
  · intro k hk
    rw [eP] at hk
    exact hl k hk
  · intro i hi
    rw [eY] at hi
    rw [heq (67 + 2 * i) (by omega), heq (68 + 2 * i) (by omega)]
    exact y1 i hi
  · intro i j hi hj
    rw [eY] at hi hj
    rw [heq (67 + 2 * i) (by omega), heq (67 + 2 * j) (by omega)]
    exact y2 i j hi hj
  · intro i j hi hj
    rw [eY] at hi hj
    rw [heq (67 + 2 * i) (by omega), heq (67 + 2 * j) (by omega), heq (68 + 2 * i) (by omega), heq (68 + 2 * j) (by omega)]
    exact y3 i j hi hj
theorem upd_s {f : Nat → Int32} {k : Nat} {x : Int32} : upd f k x k = x := pk_us
theorem upd_n {f : Nat → Int32} {k j : Nat} {x : Int32} (h : j ≠ k) : upd f k x j = f j := pk_un h
theorem upd_id {f : Nat → Int32} {k : Nat} : upd f k (f k) = f := by
  funext j
  by_cases h : j = k
  · subst h; exact upd_s
  · exact upd_n h
theorem upd_upd {f : Nat → Int32} {k : Nat} {x y : Int32} : upd (upd f k x) k y = upd f k y := by
  funext j
  by_cases h : j = k
  · subst h; rw [upd_s, upd_s]
  · rw [upd_n h, upd_n h, upd_n h]
theorem Vld_claims {w : Nat → Int32} (hv : Vld w) {k : Nat} (hk : k < cP w) {c : Int32} (h0 : 0 ≤ c.toInt) (h1 : c.toInt ≤ 1799) : Vld (upd w (41 + 8 * k) c) := by
  have h4 := hv.1.2.1.2
  refine Vld_sp hv (fun j hj => upd_n (by omega)) (fun q hq => ?_) (fun q hq => ?_)
  · obtain ⟨a1, a2, a3, a4, a5, a6, a7, a8⟩ := hv.sp hq
    unfold SpOK
    rw [upd_n (by omega), upd_n (by omega), upd_n (by omega), upd_n (by omega), upd_n (by omega), upd_n (by omega), upd_n (j := 42 + 8 * q) (by omega)]
    refine ⟨a1, a2, a3, a4, a5, a6, ?_, a8⟩
    by_cases e : q = k
    · subst e; rw [upd_s]; exact ⟨h0, h1⟩
    · rw [upd_n (by omega)]; exact a7
  · rw [upd_n (by omega)]; exact hv.2.2.2.2.2.2.2.2.2.2.2.2.1 q hq
theorem Vld_portion {w : Nat → Int32} (hv : Vld w) {k : Nat} (hk : k < cP w) (hp : ¬ w (37 + 8 * k) = -1) {c : Int32} (h0 : 0 ≤ c.toInt) (h1 : c.toInt ≤ 1000) : Vld (upd w (38 + 8 * k) c) := by
  have h4 := hv.1.2.1.2
  refine Vld_sp hv (fun j hj => upd_n (by omega)) (fun q hq => ?_) (fun q hq => ?_)
  · obtain ⟨a1, a2, a3, a4, a5, a6, a7, a8⟩ := hv.sp hq
    unfold SpOK
    rw [upd_n (j := 35 + 8 * q) (by omega), upd_n (j := 36 + 8 * q) (by omega), upd_n (j := 37 + 8 * q) (by omega), upd_n (j := 39 + 8 * q) (by omega), upd_n (j := 40 + 8 * q) (by omega), upd_n (j := 41 + 8 * q) (by omega), upd_n (j := 42 + 8 * q) (by omega)]
    by_cases e : q = k
    · subst e; rw [upd_s]
      rcases a3 with ⟨a3, -⟩ | a3
      · exact absurd a3 hp
      · exact ⟨a1, a2, Or.inr a3, ⟨h0, h1⟩, a5, a6, a7, a8⟩
    · rw [upd_n (by omega)]; exact ⟨a1, a2, a3, a4, a5, a6, a7, a8⟩
  · rw [upd_n (by omega)]; exact hv.2.2.2.2.2.2.2.2.2.2.2.2.1 q hq
/-- what depends on the first 35 places alone -/
theorem svN_cg {w w' : Nat → Int32} (heq : ∀ j, j < 35 → w' j = w j) {a b : Int32} : ∀ k, k ≤ 8 → svN w' a b k = svN w a b k
  | 0, _ => rfl
  | k + 1, h => by
    show svN w' a b k + svT (w' (11 + 3 * k)) (w' (12 + 3 * k)) a b = _
    rw [svN_cg heq k (by omega), heq (11 + 3 * k) (by omega), heq (12 + 3 * k) (by omega)]; rfl
theorem fpL_cg {w w' : Nat → Int32} (heq : ∀ j, j < 35 → w' j = w j) : ∀ k s m, k ≤ 8 → fpL w' k s m = fpL w k s m
  | 0, _, _, _ => rfl
  | k + 1, s, m, h => by
    unfold fpL
    rw [heq (11 + 3 * k) (by omega), heq (12 + 3 * k) (by omega), heq (13 + 3 * k) (by omega), fpL_cg heq k _ _ (by omega), fpL_cg heq k _ _ (by omega)]
theorem cS_cg {w w' : Nat → Int32} (heq : ∀ j, j < 35 → w' j = w j) : cS w' = cS w := by unfold cS; rw [heq 3 (by omega)]
theorem svc_cg {w w' : Nat → Int32} (hc : Cnt w) (heq : ∀ j, j < 35 → w' j = w j) {a b : Int32} : svc w' a b = svc w a b := by
  unfold svc; rw [cS_cg heq, svN_cg heq _ hc.1.2]
theorem first_cg {w w' : Nat → Int32} (hc : Cnt w) (heq : ∀ j, j < 35 → w' j = w j) : first w' = first w := by
  have e : basev w' = basev w := by unfold basev fpay; rw [cS_cg heq, fpL_cg heq _ _ _ hc.1.2, svc_cg hc heq, heq 6 (by omega)]
  have e2 : partv w' = partv w := by unfold partv; rw [heq 0 (by omega), heq 1 (by omega), heq 7 (by omega), heq 8 (by omega)]
  unfold first; rw [e, e2, heq 1 (by omega)]
theorem vW_cg {w w' : Nat → Int32} (hc : Cnt w) (heq : ∀ j, j < 35 → w' j = w j) : ∀ m, vW w' m = vW w m
  | 0 => by unfold vW; rw [first_cg hc heq]
  | m + 1 => by
    show stW w' m (vW w' m) = stW w m (vW w m)
    rw [vW_cg hc heq m]; unfold stW; rw [heq 1 (by omega), heq 9 (by omega)]
theorem whl_cg {w w' : Nat → Int32} (hc : Cnt w) (heq : ∀ j, j < 35 → w' j = w j) (m : Nat) : whl w' m = whl w m := by
  unfold whl; rw [vW_cg hc heq, heq 1 (by omega)]
theorem dsc_cg {w w' : Nat → Int32} (heq : ∀ j, j < 35 → w' j = w j) : ∀ m, dsc w' m = dsc w m
  | 0 => rfl
  | m + 1 => by
    show dsc w' m * 12000 / (12000 + (w' 10).toInt64) = dsc w m * 12000 / (12000 + (w 10).toInt64)
    rw [dsc_cg heq m, heq 10 (by omega)]
theorem CaOK.cg {w w' iv : Nat → Int32} {la : Nat → Nat → Int64} (hc : Cnt w) (heq : ∀ j, j < 35 → w' j = w j) (h : CaOK iv w la) : CaOK iv w' la := by
  rcases h with h | ⟨h, h2⟩
  · exact Or.inl h
  · exact Or.inr ⟨h, fun j hj => by rw [whl_cg hc heq, dsc_cg heq]; exact h2 j hj⟩
theorem rT_cg {w w' : Nat → Int32} (heq : ∀ j, j < 35 → w' j = w j) : rT w' = rT w := by unfold rT; rw [heq 1 (by omega)]
theorem va_up_id {ia : Nat → Nat → Int32} : va_up ia 0 (ia 0) = ia := by
  funext j; unfold va_up; split
  · rename_i h; rw [h]
  · rfl
theorem va_up_up {ia : Nat → Nat → Int32} {x y : Nat → Int32} : va_up (va_up ia 0 x) 0 y = va_up ia 0 y := by
  funext j; unfold va_up; split <;> rfl
def bornW (w : Nat → Int32) (p : Int32) : Int32 := if p = 10 then w 0 else w (35 + 8 * p.toNatClampNeg)
def hwI (w : Nat → Int32) (p q : Int32) : Int32 := if whoI w p = 0 then 0 else if inI q 0 1799 = 0 then 0 else if w 1 = -1 then 0 else if q < w 0 then 0 else if q < bornW w p then 0 else 1
def worthV (w : Nat → Int32) (p q : Int32) : Int64 := if hwI w p q = 0 then -1 else if p = 10 then wal w q.toNatClampNeg else wsp w p.toNatClampNeg q.toNatClampNeg
theorem whoI_sp {w : Nat → Int32} {p : Int32} (h : ¬ whoI w p = 0) (h2 : ¬ p = 10) : ¬ inI p 0 (w 4 - 1) = 0 := by
  unfold whoI at h; rw [if_neg h2] at h; exact h
section MG
variable {mo : Nat} {iv : Nat → Int32} {ia : Nat → Nat → Int32} {la : Nat → Nat → Int64} {g : pz_H}
theorem m_hasWorth (hv : Vld (ia 0)) (p q : Int32) : fnX10_hasWorth (MH mo iv ia la g) mo p q = some (hwI (ia 0) p q) := by
  unfold fnX10_hasWorth fX10_hasWorth_48 fX10_hasWorth_49 hwI
  simp only [mh_is, mh_g0, mh_g4, mh_g6, mh_g12, mh_g14, mh_g15, mh_g16, mh_g17, mh_g18, mh_g19, mh_g20, mh_r1, mh_r2, mh_r3, mh_r5, mh_r7, mh_r8, mh_r9, mh_r10, mh_r11, mh_r13, mh_r21, mh_s0, mh_s4, mh_s6, mh_s12, mh_s14, mh_s15, mh_s16, mh_s17, mh_s18, mh_s19, mh_s20, mh_w0, mh_w1, mh_w2, mh_w3, mh_w4, mh_w5, mh_w6, mh_w7, mh_w8, mh_w9, mh_w10, bs, m_isWhoI, m_isMonth, pb0, pb1]
  by_cases c1 : whoI (ia 0) p = 0
  · simp only [c1, ↓reduceIte]
  simp only [c1, ↓reduceIte]
  have hb : fnX10_bornOf (MH mo iv ia la g) mo p = some (bornW (ia 0) p) := by
    unfold bornW
    by_cases c : p = 10
    · rw [if_pos c, c]; exact m_bornM
    · rw [if_neg c]
      obtain ⟨a, b⟩ := spo_of hv (whoI_sp c1 c)
      exact m_bornS a (hv.p4 b)
  simp only [hb, bs]
  by_cases c2 : inI q 0 1799 = 0
  · simp only [c2, ↓reduceIte]
  simp only [c2, ↓reduceIte]
  by_cases c3 : ia 0 1 = -1
  · simp only [c3, ↓reduceIte]
  simp only [c3, ↓reduceIte]
  by_cases c4 : q < ia 0 0
  · simp only [c4, ↓reduceIte]
  simp only [c4, ↓reduceIte]
  by_cases c5 : q < bornW (ia 0) p
  · simp only [c5, ↓reduceIte]
  · simp only [c5, ↓reduceIte]
theorem hw_of {w : Nat → Int32} {p q : Int32} (h : ¬ hwI w p q = 0) : ¬ whoI w p = 0 ∧ ¬ inI q 0 1799 = 0 ∧ ¬ w 1 = -1 ∧ ¬ q < w 0 ∧ ¬ q < bornW w p := by
  unfold hwI at h
  by_cases c1 : whoI w p = 0
  · rw [if_pos c1] at h; exact absurd rfl h
  rw [if_neg c1] at h
  by_cases c2 : inI q 0 1799 = 0
  · rw [if_pos c2] at h; exact absurd rfl h
  rw [if_neg c2] at h
  by_cases c3 : w 1 = -1
  · rw [if_pos c3] at h; exact absurd rfl h
  rw [if_neg c3] at h
  by_cases c4 : q < w 0
  · rw [if_pos c4] at h; exact absurd rfl h
  rw [if_neg c4] at h
  by_cases c5 : q < bornW w p
  · rw [if_pos c5] at h; exact absurd rfl h
  exact ⟨c1, c2, c3, c4, c5⟩
theorem not_lt_nat {q x : Int32} {t : Nat} (hq : q = nI t) (ht : t < 1800) (h : ¬ q < x) : x.toInt ≤ t := by
  rw [i32_lt, hq, nI_toInt (by omega)] at h; omega
theorem m_worth (hv : Vld (ia 0)) (hca : CaOK iv (ia 0) la) (p q : Int32) : ∃ iv' la', fnX10_worth (MH mo iv ia la g) mo p q = some (worthV (ia 0) p q, MH mo iv' ia la' g) ∧ LR (ia 0) iv iv' la' := by
  unfold fnX10_worth fX10_worth_38 worthV
  simp only [mh_is, mh_g0, mh_g4, mh_g6, mh_g12, mh_g14, mh_g15, mh_g16, mh_g17, mh_g18, mh_g19, mh_g20, mh_r1, mh_r2, mh_r3, mh_r5, mh_r7, mh_r8, mh_r9, mh_r10, mh_r11, mh_r13, mh_r21, mh_s0, mh_s4, mh_s6, mh_s12, mh_s14, mh_s15, mh_s16, mh_s17, mh_s18, mh_s19, mh_s20, mh_w0, mh_w1, mh_w2, mh_w3, mh_w4, mh_w5, mh_w6, mh_w7, mh_w8, mh_w9, mh_w10, bs, m_hasWorth hv]
  by_cases c1 : hwI (ia 0) p q = 0
  · simp only [c1, ↓reduceIte]; exact ⟨_, la, rfl, LR.rf hca⟩
  simp only [c1, ↓reduceIte]
  obtain ⟨h1, h2, h3, h4, h5⟩ := hw_of c1
  obtain ⟨q1, q2⟩ := mon_of h2
  have hb := not_lt_nat q1 q2 h4
  by_cases c2 : p = 10
  · simp only [c2, ↓reduceIte]
    obtain ⟨iv1, la1, e1, f1⟩ := m_worthOfAll (mo := mo) (g := g) hv (ca_up0 hca) h3 q1 q2 hb
    simp only [e1, bs]; exact ⟨iv1, la1, rfl, LR.lo f1⟩
  · simp only [c2, ↓reduceIte]
    obtain ⟨p1, p2⟩ := spo_of hv (whoI_sp h1 c2)
    have hb2 := not_lt_nat q1 q2 h5
    unfold bornW at hb2; rw [if_neg c2] at hb2
    obtain ⟨iv1, la1, e1, f1⟩ := m_worthOfSpouse (mo := mo) (g := g) hv (ca_up0 hca) h3 p1 p2 q1 q2 hb hb2
    simp only [e1, bs]; exact ⟨iv1, la1, rfl, LR.lo f1⟩
end MG
