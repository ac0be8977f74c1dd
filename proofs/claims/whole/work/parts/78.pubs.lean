/-! ===== the class's face: what reads alone ===== -/
section OBS
variable {f : pz_H} {xo : Nat} {lf pc : Int32}
theorem ob_is (h : f.1 xo = ObC xo lf pc) : pz_is f xo 8 = some () := is_of h
theorem ob_g0 (h : f.1 xo = ObC xo lf pc) : pz_gI f xo 8 0 = some lf := gI_of h rfl
theorem ob_g4 (h : f.1 xo = ObC xo lf pc) : pz_gI f xo 8 4 = some pc := gI_of h rfl
theorem ob_r1 (h : f.1 xo = ObC xo lf pc) : pz_gR f xo 8 1 = some (xo + 1) := gR_of h rfl
theorem ob_r2 (h : f.1 xo = ObC xo lf pc) : pz_gR f xo 8 2 = some (xo + 20) := gR_of h rfl
theorem ob_r3 (h : f.1 xo = ObC xo lf pc) : pz_gR f xo 8 3 = some (xo + 39) := gR_of h rfl
theorem ob_r5 (h : f.1 xo = ObC xo lf pc) : pz_gR f xo 8 5 = some (xo + 40) := gR_of h rfl
theorem ob_r6 (h : f.1 xo = ObC xo lf pc) : pz_gR f xo 8 6 = some (xo + 43) := gR_of h rfl
theorem ob_r7 (h : f.1 xo = ObC xo lf pc) : pz_gR f xo 8 7 = some (xo + 50) := gR_of h rfl
theorem up_bu {a : Nat} {e : pz_E} : pz_up f a e = BU a 1 (fun _ => some e) f := by
  unfold pz_up BU
  refine Prod.ext ?_ rfl
  funext b
  show va_up f.1 a (some e) b = if a ≤ b ∧ b < a + 1 then some e else f.1 b
  unfold va_up
  by_cases c : b = a
  · rw [if_pos c, if_pos (by omega)]
  · rw [if_neg c, if_neg (by omega)]
theorem ob_w0 (h : f.1 xo = ObC xo lf pc) {v : Int32} : pz_sV f xo 8 0 (.int v) = some (OB xo v pc f) := by
  rw [sV_of h (show 0 < 8 by decide), up_bu]; rfl
theorem ob_w4 (h : f.1 xo = ObC xo lf pc) {v : Int32} : pz_sV f xo 8 4 (.int v) = some (OB xo lf v f) := by
  rw [sV_of h (show 4 < 8 by decide), up_bu]; rfl
theorem OB_at : (OB xo lf pc f).1 xo = ObC xo lf pc := BU_0 (by decide)
end OBS
theorem crL_none {w : Nat → Int32} {k : Nat} (h1 : w 1 = -1) : ∀ n m, crL w k n m 0 0 = -1
  | 0, _ => rfl
  | n + 1, m => by
    have e : ∀ h, pdB w k m h = 0 := by
      intro h
      have ei : ispd w k (nI m) = 0 := by
        unfold ispd; rw [if_pos h1]; (repeat' split) <;> rfl
      unfold pdB
      rw [ei, if_pos rfl]
    unfold crL
    rw [e, e, if_pos (by decide)]
    exact crL_none h1 n (m + 1)
section PUB
variable {f f' : pz_H} {z xo n k : Nat} {w tp : Nat → Int32} {lf : Int32} {ws : Nat → Nat → Int32}
theorem x_fault (h : XI f z xo w lf n k tp ws) : fnX9_fault f xo = some lf := by
  obtain ⟨-, b, -⟩ := h
  unfold fnX9_fault
  rw [ob_is b, bs, ob_g0 b, bs]
theorem x_count (h : XI f z xo w lf n k tp ws) (hv : Vld w) (p : Int32) : fnX9_count f xo p = some (cntV w (nI n) (nI k) p) := by
  obtain ⟨-, b, ⟨pi, tm, sr, so, qo, tl, c, hr⟩, -, -, ⟨rv, bt, vs, g, g1, g2⟩, -⟩ := h
  have hg : pz_gI f (xo + 40) 3 1 = some (rv 1) := gI_of (g 0 (by decide)) rfl
  unfold fnX9_count cntV
  simp only [ob_is b, bs, c_isTerm, ob_r1 b, ob_r5 b, ob_g4 b, p_g5 c, p_g8 c, p_r9 c, p_t2 c, p_g0 c, p_g1 c, p_g2 c, hg, g1, p_r3 c, hr.1.1.1, hr.1.1.2.1, hr.1.1.2.2.1, hr.1.1.2.2.2.1, hr.1.1.2.2.2.2.2.1, hr.1.1.2.2.2.2.2.2]
  by_cases c0 : inI p 10 14 = 0
  · rw [if_pos c0, if_pos c0]
    (repeat' split) <;> rfl
  · rw [if_neg c0, if_neg c0]
    have hp := inI_of c0
    have x10 : (10 : Int32).toInt = 10 := rfl
    have x14 : (14 : Int32).toInt = 14 := rfl
    obtain ⟨p1, p2⟩ := nI_clampI (x := p) (by omega)
    have e2 : p - 10 = nI (p.toNatClampNeg - 10) := by
      rw [i32_eq, nI_toInt (by omega), i32_sub (by omega) (by omega)]; omega
    rw [p_tm c e2 (by omega), bs, hr.1.2.1 _ (by omega), show 6 + (p.toNatClampNeg - 10) = p.toNatClampNeg - 4 by omega]
theorem x_service (h : XI f z xo w lf n k tp ws) (hv : Vld w) (p q : Int32) : fnX9_service f xo p q = some (svcV w p q) := by
  obtain ⟨-, b, ⟨pi, tm, sr, so, qo, tl, c, hr⟩, -⟩ := h
  unfold fnX9_service fX9_service_26 fX9_service_27 svcV
  simp only [ob_is b, bs, c_isMonth, ob_r1 b, c_service c hr.1 hv.c]
  (repeat' split) <;> rfl
theorem x_benefit (h : XI f z xo w lf n k tp ws) (hv : Vld w) (p : Int32) : fnX9_benefit f xo p = some (benV w p) := by
  obtain ⟨-, b, ⟨pi, tm, sr, so, qo, tl, c, hr⟩, -⟩ := h
  unfold fnX9_benefit benV
  simp only [ob_is b, bs, ob_r1 b, p_g6 c, hr.1.1.2.2.2.2.1, c_finalPay c hr.1 hv, c_basePay c hr.1 hv, c_firstPay c hr.1 hv]
  (repeat' split) <;> rfl
theorem x_lives (h : XI f z xo w lf n k tp ws) (hv : Vld w) (p : Int32) : fnX9_lives f xo p = some (lvsV w p) := by
  obtain ⟨-, b, ⟨pi, tm, sr, so, qo, tl, c, hr⟩, -⟩ := h
  unfold fnX9_lives fX9_lives_19 lvsV
  rw [ob_is b, bs]
  by_cases d : 0 ≤ p
  · rw [if_pos d, if_pos d, ob_r1 b, bs, p_r9 c, bs, c_livesAt c hr.1.1.2.2.2.2.2.2 hv hr.2.2.1 (by rw [i32_le, z32] at d; exact d), bs]
  · rw [if_neg d, if_neg d]
theorem c_div_loop : ∀ (N s : Nat) (a b : Int32), s ≤ 64 → 64 - s < N → fX9_commonDivisor_7 N a b (nI s) = some (edL (64 - s) a b)
  | 0, s, a, b, _, h => by omega
  | N + 1, s, a, b, hs, hN => by
    show fX9_commonDivisor_7b _ _ _ _ = _
    unfold fX9_commonDivisor_7b fX9_commonDivisor_34
    by_cases c : s = 64
    · subst c; rw [if_pos (by decide)]; rfl
    · rw [if_neg (by rw [show (64 : Int32) = nI 64 from rfl, nI_leI (by decide) (by omega)]; omega)]
      have e : 64 - s = (64 - (s + 1)) + 1 := by omega
      rw [e]
      unfold edL
      by_cases d : b = 0
      · rw [if_pos d, if_pos d]
      · rw [if_neg d, if_neg d, if_neg d, nI_1, c_div_loop N (s + 1) _ _ (by omega) (by omega)]
theorem c_div {a b : Int32} (ha : 0 ≤ a.toInt) (hb : 0 ≤ b.toInt) : fnX9_commonDivisor a b = some (edL 62 a b) := by
  have h1 := (m_divisor ha hb).1
  have h2 := (m_div_loop 32 pz_F a b ha hb (by have := i32_hi b; show _ < (4294967296 : Int); omega) (by unfold pz_F; omega)).1
  have h3 : fnX10_divisor a b = fX10_divisor_4 pz_F a b := rfl
  rw [h3, h2] at h1
  unfold fnX9_commonDivisor
  rw [show (0 : Int32) = nI 0 from rfl, c_div_loop pz_F 0 a b (by omega) (by unfold pz_F; omega)]
  exact h1
theorem x_share (h : XI f z xo w lf n k tp ws) (hv : Vld w) (p q : Int32) : fnX9_share f xo p q = some (shV w p q) := by
  obtain ⟨-, b, ⟨pi, tm, sr, so, qo, tl, c, hr⟩, -⟩ := h
  unfold fnX9_share fX9_share_48 fX9_share_95 shV
  rw [ob_is b, bs, ob_r1 b, bs, c_hasSpouse c hr.1 hv.c, bs]
  by_cases c1 : inI p 0 (w 4 - 1) = 0
  · rw [if_pos c1, if_pos c1]
  rw [if_neg c1, if_neg c1]
  obtain ⟨p1, p2⟩ := spo_of hv c1
  have hk4 := hv.p4 p2
  obtain ⟨b1, b2, b3⟩ := sh_bd hv p2
  obtain ⟨d1, d2⟩ := m_divisor b1 (Int.le_of_lt b2)
  have d3 : ¬ edL 62 (shUp w p.toNatClampNeg) (shLo w p.toNatClampNeg) = 0 := by
    intro z; have := d2 (Or.inr b2); rw [z, z32] at this; omega
  have hS := c.cq hk4
  have hq := hr.2.1 _ p2
  rw [bs, p_r7 c, bs, p_qr c p1 hk4, bs, q_g3 hS, bs, q_g8 hS, bs, hq.2.2.2.1, hq.2.2.2.2.2.2.2.2, bs, p_g6 c, bs, hr.1.1.2.2.2.2.1]
  have eU : w (38 + 8 * p.toNatClampNeg) * wed w p.toNatClampNeg = shUp w p.toNatClampNeg := rfl
  rw [eU]
  by_cases c2 : shUp w p.toNatClampNeg = 0
  · have eL : shLo w p.toNatClampNeg = 1 := by unfold shLo; rw [if_pos c2]
    have eE : edL 62 (0 : Int32) 1 = 1 := by decide
    rw [if_pos c2, eL, c2, eE]
    by_cases c3 : q = 0
    · rw [if_pos c3, if_pos c3]; rfl
    · rw [if_neg c3, if_neg c3]; rfl
  · have eL : shLo w p.toNatClampNeg = 1000 * svc w 0 1800 := by unfold shLo; rw [if_neg c2]
    rw [if_neg c2, ← eL, c_div b1 (Int.le_of_lt b2), bs, if_neg d3, if_neg d3, if_neg d3]
    by_cases c3 : q = 0
    · rw [if_pos c3, if_pos c3]
    · rw [if_neg c3, if_neg c3]
end PUB
