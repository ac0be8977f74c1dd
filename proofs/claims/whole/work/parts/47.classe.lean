/-! ===== the class's reckoner: own, what is paid ===== -/
theorem c_isAlive (d m : Int32) : fnX5_isAlive d m = some (lvin d m) := by
  unfold fnX5_isAlive fX5_isAlive_10 fX5_isAlive_15 lvin
  by_cases c : d = -1
  · rw [if_pos c, if_pos c]; rfl
  · rw [if_neg c, if_neg c]
    by_cases e : d ≤ m
    · rw [if_pos e, if_pos e]; rfl
    · rw [if_neg e, if_neg e]; rfl
theorem c_ownBy (sh me sp : Int64) : fnX5_ownBy sh me sp = some (ownB sh me sp) := by
  unfold fnX5_ownBy fX5_ownBy_31 ownB
  by_cases c : sp = 0
  · rw [if_pos (lg_0.mpr c), if_pos c]
  · rw [if_neg (fun z => c (lg_0.mp z)), if_neg c, if_neg c]
    generalize sh * me / 1000000000 * 1000000000 / sp = x
    congr 1
    by_cases d : x < 1000000000
    · rw [if_pos d, if_pos (by rw [i64_lt] at d; rw [i64_le]; omega)]
    · rw [if_neg d]
      by_cases e : x ≤ 1000000000
      · rw [if_pos e]; rw [i64_lt] at d; rw [i64_le] at e; rw [i64_eq]; omega
      · rw [if_neg e]
theorem ownB_0 (me sp : Int64) : ownB 0 me sp = 0 := by
  unfold ownB
  by_cases c : sp = 0
  · rw [if_pos c]
  · rw [if_neg c, Int64.zero_mul]
    have e : (0 : Int64) / 1000000000 * 1000000000 / sp = 0 := by
      show (0 : Int64) / sp = 0
      exact Int64.zero_div
    rw [e, if_pos (by decide)]
section CE
variable {po ro : Nat} {w pi tm : Nat → Int32} {sr : Nat → Nat} {so qo tl : Nat → Nat → Int32} {f F : pz_H} {ra : Nat → Nat → Int32} {ow : Nat → Int64} {ch : Nat → Int32}
theorem shr_0 {k m : Nat} (hv : Vld w) (hk : k < cP w) (h : w (37 + 8 * k) = -1) : shr w k m = 0 := by
  unfold shr
  by_cases c : nS w = 0
  · rw [if_pos c]
  · rw [if_neg c]
    have : w (38 + 8 * k) = 0 := by
      rcases (hv.sp hk).2.2.1 with ⟨_, a, _⟩ | ⟨a, _⟩
      · exact a
      · have := (hv.sp hk).2.1.1
        rw [h, m1] at a; omega
    rw [this, show (0 : Int32).toInt64 = 0 from rfl, Int64.mul_zero, Int64.zero_mul, Int64.zero_div]
theorem c_ownOf (h : PlF f po pi tm sr so qo tl) (hd : po + 19 ≤ ro ∨ ro + 7 ≤ po) (hr : LwR w pi tm sr so) (hy : YrR w (tl 0) (tl 1)) (hv : Vld w) {a k : Nat} {q : Nat → Int32} (hs : ∀ ra ow, SpF (RB ro ra ow ch f) a q) (hq : QR w k q) (hk : k < cP w) : ∃ ra', fnX5_ownOf (RB ro ra ow ch f) ro po a = some (own w k, RB ro ra' ow ch f) ∧ ra' 0 = ra 0 ∧ ra' 2 = ra 2 := by
  have h' := fun ra => h.rb (ra := ra) (ow := ow) (ch := ch) hd
  unfold fnX5_ownOf fX5_ownOf_30 own
  rw [r_is RB_rkf, bs, p_g1 (h' ra), bs, hr.1.2.1]
  by_cases c1 : w 1 = -1
  · rw [if_pos c1, if_pos c1]; exact ⟨ra, rfl, rfl, rfl⟩
  obtain ⟨r1, r2, r3, r4⟩ := hv.r c1
  obtain ⟨b1, b2, b3⟩ := hv.b c1 hk
  rw [if_neg c1, if_neg c1, p_g0 (h' ra), bs, hr.1.1]
  simp only [bs]
  by_cases c2 : w 1 < w 0
  · rw [if_pos c2, if_pos c2]
    by_cases z : w (37 + 8 * k) = -1
    · rw [if_pos z]; exact ⟨ra, rfl, rfl, rfl⟩
    · rw [if_neg z]; exact ⟨ra, rfl, rfl, rfl⟩
  rw [if_neg c2, if_neg c2, q_g0 (hs _ _), bs, hq.1]
  refine (Decidable.em (w (35 + 8 * k) ≤ w 1)).symm.elim (fun c3 => ?_) (fun c3 => ?_)
  · rw [if_neg c3, if_pos (show w 1 < w (35 + 8 * k) by rw [i32_le] at c3; rw [i32_lt]; omega)]
    by_cases z : w (37 + 8 * k) = -1
    · rw [if_pos z]; exact ⟨ra, rfl, rfl, rfl⟩
    · rw [if_neg z]; exact ⟨ra, rfl, rfl, rfl⟩
  rw [if_pos c3, if_neg (show ¬ w 1 < w (35 + 8 * k) by rw [i32_le] at c3; rw [i32_lt]; omega), c_firstPay (h' ra) hr hv, bs, c_shareOf (h' ra) hr hv (hs _ _) hq, bs]
  have hsh : (if nS w = 0 then 0 else (first w).toInt64 * (w (38 + 8 * k)).toInt64 * (wed w k).toInt64 / (1000 * (nS w).toInt64)) = shr w k (rT w) := by
    unfold shr; rw [whl_r hv c1]
  rw [hsh]
  rw [i32_lt] at c2; rw [i32_le] at c3
  obtain ⟨ra1, e1, -, f0, f2⟩ := c_ann (ra := ra) (ow := ow) (ch := ch) h hd hr hy hv hv.2.1.1 (by omega) r1 r2 r1 (Nat.le_refl _) r2
  obtain ⟨ra2, e2, -, g0, g2⟩ := c_ann (ra := ra1) (ow := ow) (ch := ch) h hd hr hy hv (hv.sp hk).1.1 (by omega) r1 r2 b1 b3 b2
  rw [e1, bs]
  dsimp only
  rw [q_g0 (hs _ _), bs, hq.1, p_g1 (h' ra1), bs, hr.1.2.1, c_beginOf (h' ra1) hr (hs _ _) hq, bs, e2, bs, c_ownBy, bs]
  refine ⟨ra2, ?_, g0.trans f0, g2.trans f2⟩
  by_cases z : w (37 + 8 * k) = -1
  · rw [if_pos z, shr_0 hv hk z, ownB_0]
  · rw [if_neg z]
/-- the wholes are laid -/
def RwW (w : Nat → Int32) (ra : Nat → Nat → Int32) : Prop := ∀ j, j < 1800 → ra 0 j = (whl w j).toInt32
theorem c_shareW (hP : PlF F po pi tm sr so qo tl) (hr : LwR w pi tm sr so) (hv : Vld w) {a k m : Nat} {q : Nat → Int32} (hs : SpF F a q) (hq : QR w k q) (hm : m < 1800) : fnX3_shareOf F po a (whl w m).toInt32 = some (shr w k m) := by
  rw [c_shareOf hP hr hv hs hq, whl_64 hv hm]; rfl
theorem c_paidSp (hP : PlF F po pi tm sr so qo tl) (hK : RkF F ro ra ow ch) (hr : LwR w pi tm sr so) (hv : Vld w) (hW : RwW w ra) {a k m : Nat} {q : Nat → Int32} (hs : SpF F a q) (hq : QR w k q) (hm : m < 1800) (x : Int64) : fnX5_paidToSpouse F ro po a (nI m) x = some (if ispd w k (nI m) = 0 then 0 else if w (39 + 8 * k) = 1 then x else if lvin (w 2) (nI m) = 0 then shr w k m * (w (40 + 8 * k)).toInt64 / 1000 else shr w k m) := by
  unfold fnX5_paidToSpouse fX5_paidToSpouse_25 fX5_paidToSpouse_92 ispd
  rw [r_is hK, bs, c_isPartedBy hs hq, bs]
  by_cases c1 : w (37 + 8 * k) = -1
  · rw [if_pos c1, if_pos c1, if_pos rfl, if_pos rfl]
  rw [if_neg c1, if_neg c1]
  by_cases c2 : nI m < w (37 + 8 * k)
  · rw [if_pos c2, if_pos c2, if_pos rfl, if_pos rfl]
  rw [if_neg c2, if_neg c2, if_neg one_0, p_g1 hP, bs, hr.1.2.1]
  by_cases c3 : w 1 = -1
  · rw [if_pos c3, if_pos c3, if_pos rfl]
  rw [if_neg c3, if_neg c3, c_beginOf hP hr hs hq, bs]
  by_cases c4 : nI m < beg w k
  · rw [if_pos c4, if_pos rfl, if_neg (by rw [i32_lt] at c4; rw [i32_le]; omega)]
  rw [if_neg c4, if_pos (by rw [i32_lt] at c4; rw [i32_le]; omega), q_g7 hs, bs, hq.2.2.2.2.2.2.2.1, c_isAlive, bs]
  by_cases c5 : lvin (w (42 + 8 * k)) (nI m) = 0
  · rw [if_pos c5, if_pos c5]
  rw [if_neg c5, if_neg c5, q_g4 hs, bs, hq.2.2.2.2.1]
  by_cases c6 : w (39 + 8 * k) = 1
  · rw [if_pos c6, if_pos c6]
  rw [if_neg c6, if_neg c6, r_r0 hK, bs, r_i0 hK (k := m) rfl hm, bs, hW m hm, c_shareW hP hr hv hs hq hm, bs, p_g2 hP, bs, hr.1.2.2.1, c_isAlive, bs]
  by_cases c7 : lvin (w 2) (nI m) = 0
  · rw [if_pos c7, if_pos c7, q_g5 hs, bs, hq.2.2.2.2.2.1]
  · rw [if_neg c7, if_neg c7]
/-- the plan's spouses are the row's -/
def AllQ (w : Nat → Int32) (qo : Nat → Nat → Int32) : Prop := ∀ k, k < cP w → QR w k (qo k)
theorem c_paidB (hP : PlF F po pi tm sr so qo tl) (hK : RkF F ro ra ow ch) (hr : LwR w pi tm sr so) (hv : Vld w) (hW : RwW w ra) (hQ : AllQ w qo) {k m : Nat} (hk : k < cP w) (hm : m < 1800) {x : Int64} (hx : w (39 + 8 * k) = 1 → x = own w k) : fnX5_paidToSpouse F ro po (po + 15 + k) (nI m) x = some (pdB w k m (w (39 + 8 * k))) := by
  rw [c_paidSp hP hK hr hv hW (hP.cq (hv.p4 hk)) (hQ k hk) hm]
  unfold pdB
  by_cases c : w (39 + 8 * k) = 1
  · rw [if_pos c, if_pos c, hx c]
  · rw [if_neg c, if_neg c]
theorem c_paidM_loop (hP : PlF F po pi tm sr so qo tl) (hK : RkF F ro ra ow ch) (hr : LwR w pi tm sr so) (hv : Vld w) (hW : RwW w ra) (hQ : AllQ w qo) {m : Nat} (hm : m < 1800) : ∀ (N i : Nat), i ≤ cP w → cP w - i < N → fX5_paidToMember_24 F N ro po (nI m) (pmL w m i) (nI i) = some (pmL w m (cP w)) := by
  intro N
  have h4 := hv.1.2.1
  induction N with
  | zero => intro i _ hh; omega
  | succ N ih =>
    intro i hi hN
    show fX5_paidToMember_24b _ _ _ _ _ _ _ = _
    unfold fX5_paidToMember_24b fX5_paidToMember_89
    rw [p_g8 hP, bs, hr.1.2.2.2.2.2.1, h4.1]
    by_cases e : i = cP w
    · rw [if_pos (by rw [e]; exact Int32.le_refl _), e]
    · have hlt : i < cP w := by omega
      have hs := hP.cq (hv.p4 hlt)
      have hq := hQ i hlt
      rw [if_neg (by rw [nI_leI (by omega) (by omega)]; omega), p_r7 hP, bs, p_qr hP (k := i) rfl (hv.p4 hlt), bs, q_g4 hs, bs, hq.2.2.2.2.1, nI_1]
      have key := ih (i + 1) (by omega) (by omega)
      have hL : pmL w m (i + 1) = if w (39 + 8 * i) = 0 then pmL w m i - pdB w i m 0 else if w (37 + 8 * i) = -1 then pmL w m i else if nI m < w (37 + 8 * i) then pmL w m i else pmL w m i - shr w i m := rfl
      rw [hL] at key
      by_cases c1 : w (39 + 8 * i) = 0
      · rw [if_pos c1]
        rw [if_pos c1] at key
        rw [c_paidB hP hK hr hv hW hQ hlt hm (x := 0) (fun z => by rw [z] at c1; exact absurd c1 (by decide)), bs, c1]
        exact key
      rw [if_neg c1]
      rw [if_neg c1] at key
      rw [c_isPartedBy hs hq, bs]
      by_cases c2 : w (37 + 8 * i) = -1
      · rw [if_pos c2, if_pos rfl]; rw [if_pos c2] at key; exact key
      rw [if_neg c2]
      rw [if_neg c2] at key
      by_cases c3 : nI m < w (37 + 8 * i)
      · rw [if_pos c3, if_pos rfl]; rw [if_pos c3] at key; exact key
      rw [if_neg c3, if_neg one_0, r_r0 hK, bs, r_i0 hK (k := m) rfl hm, bs, hW m hm, c_shareW hP hr hv hs hq hm, bs]
      rw [if_neg c3] at key; exact key
theorem c_paidM (hP : PlF F po pi tm sr so qo tl) (hK : RkF F ro ra ow ch) (hr : LwR w pi tm sr so) (hv : Vld w) (hW : RwW w ra) (hQ : AllQ w qo) {m : Nat} (hm : m < 1800) : fnX5_paidToMember F ro po (nI m) = some (pdM w m) := by
  unfold fnX5_paidToMember pdM
  rw [r_is hK, bs, p_g2 hP, bs, hr.1.2.2.1, c_isAlive, bs]
  by_cases c : lvin (w 2) (nI m) = 0
  · rw [if_pos c, if_pos c]
  · rw [if_neg c, if_neg c, r_r0 hK, bs, r_i0 hK (k := m) rfl hm, bs, hW m hm, whl_64 hv hm]
    exact c_paidM_loop hP hK hr hv hW hQ hm pz_F 0 (by omega) (by have := hv.1.2.1.2; unfold pz_F; omega)
/-- the owns are laid -/
def OwR (w : Nat → Int32) (ow : Nat → Int64) : Prop := ∀ k, k < cP w → w (39 + 8 * k) = 1 → ow k = own w k
theorem c_rest_loop (hP : PlF F po pi tm sr so qo tl) (hK : RkF F ro ra ow ch) (hr : LwR w pi tm sr so) (hv : Vld w) (hW : RwW w ra) (hQ : AllQ w qo) (hO : OwR w ow) {m : Nat} (hm : m < 1800) {v : Int64} : ∀ (N i : Nat), i ≤ cP w → cP w - i < N → fX5_restOf_18 F N ro po (nI m) (prL w m v i) (nI i) = some (prL w m v (cP w)) := by
  intro N
  have h4 := hv.1.2.1
  induction N with
  | zero => intro i _ hh; omega
  | succ N ih =>
    intro i hi hN
    show fX5_restOf_18b _ _ _ _ _ _ _ = _
    unfold fX5_restOf_18b
    rw [p_g8 hP, bs, hr.1.2.2.2.2.2.1, h4.1]
    by_cases e : i = cP w
    · rw [if_pos (by rw [e]; exact Int32.le_refl _), e]
    · have hlt : i < cP w := by omega
      rw [if_neg (by rw [nI_leI (by omega) (by omega)]; omega), p_r7 hP, bs, p_qr hP (k := i) rfl (hv.p4 hlt), bs, r_r4 hK, bs, r_o hK (k := i) rfl (hv.p4 hlt), bs, c_paidB hP hK hr hv hW hQ hlt hm (hO i hlt), bs, nI_1]
      exact ih (i + 1) (by omega) (by omega)
theorem c_paidTo (hP : PlF F po pi tm sr so qo tl) (hK : RkF F ro ra ow ch) (hr : LwR w pi tm sr so) (hv : Vld w) (hW : RwW w ra) (hQ : AllQ w qo) (hO : OwR w ow) {m who : Nat} {p : Int32} (hm : m < 1800) (hp : p = nI who) (hw : isWho w who) : fnX5_paidTo F ro po (nI m) p = some (pdW w who m) := by
  subst hp
  have h4 := hv.1.2.1.2
  have hlt : who < 2147483648 := by rcases hw with z | z | z <;> omega
  have e10 : (nI who = 10) ↔ who = 10 := by rw [show (10 : Int32) = nI 10 from rfl, i32_eq, nI_toInt hlt, nI_toInt (by decide)]; omega
  have e11 : (nI who = 11) ↔ who = 11 := by rw [show (11 : Int32) = nI 11 from rfl, i32_eq, nI_toInt hlt, nI_toInt (by decide)]; omega
  unfold fnX5_paidTo fX5_paidTo_56 pdW
  rw [r_is hK, bs]
  by_cases c1 : who = 10
  · rw [if_pos (e10.mpr c1), if_pos c1, c_paidM hP hK hr hv hW hQ hm, bs]
  rw [if_neg (fun z => c1 (e10.mp z)), if_neg c1]
  by_cases c2 : who = 11
  · rw [if_pos (e11.mpr c2), if_pos c2]
    unfold fnX5_restOf pdR
    rw [r_is hK, bs, r_r0 hK, bs, r_i0 hK (k := m) rfl hm, bs, c_paidM hP hK hr hv hW hQ hm, bs, hW m hm, whl_64 hv hm]
    have := c_rest_loop hP hK hr hv hW hQ hO hm (v := whl w m - pdM w m) pz_F 0 (by omega) (by unfold pz_F; omega)
    have e : fX5_restOf_18 F pz_F ro po (nI m) (whl w m - pdM w m) 0 = _ := this
    rw [e, bs]
  rw [if_neg (fun z => c2 (e11.mp z)), if_neg c2]
  have hk : who < cP w := by rcases hw with z | z | z <;> first | exact absurd z c1 | exact absurd z c2 | exact z
  have hi : inI (nI who) 0 (w 4 - 1) = 1 := by
    refine inI_1 (by rw [i32_lt, nI_toInt hlt, z32]; omega) ?_
    have e : (w 4).toInt = cP w := by rw [hv.1.2.1.1, nI_toInt (by omega)]
    rw [i32_lt, nI_toInt hlt, i32_sub (by rw [o32]; omega) (by rw [o32]; omega), o32]; omega
  rw [c_hasSpouse hP hr hv.c, bs, hi, if_neg one_0, p_r7 hP, bs, p_qr hP (k := who) rfl (hv.p4 hk), bs, r_r4 hK, bs, r_o hK (k := who) rfl (hv.p4 hk), bs, c_paidB hP hK hr hv hW hQ hk hm (hO who hk), bs]
theorem c_within_loop (hP : PlF F po pi tm sr so qo tl) (hK : RkF F ro ra ow ch) (hr : LwR w pi tm sr so) (hv : Vld w) (hW : RwW w ra) (hQ : AllQ w qo) (hO : OwR w ow) {a b who : Nat} {p : Int32} (hp : p = nI who) (hw : isWho w who) (hb : b ≤ 1800) : ∀ (N i : Nat), a + i ≤ b → b - (a + i) < N → fX5_paidWithin_6 F N ro po p (nI b) (smA (pdW w who) a i) (nI (a + i)) = some (smA (pdW w who) a (b - a)) := by
  intro N
  induction N with
  | zero => intro i _ hh; omega
  | succ N ih =>
    intro i hi hN
    show fX5_paidWithin_6b _ _ _ _ _ _ _ _ = _
    unfold fX5_paidWithin_6b
    by_cases e : a + i = b
    · rw [if_pos (by rw [e]; exact Int32.le_refl _), show b - a = i by omega]
    · rw [if_neg (by rw [nI_leI (by omega) (by omega)]; omega), c_paidTo hP hK hr hv hW hQ hO (m := a + i) (by omega) hp hw, bs, nI_1]
      exact ih (i + 1) (by omega) (by omega)
theorem c_within (hP : PlF F po pi tm sr so qo tl) (hK : RkF F ro ra ow ch) (hr : LwR w pi tm sr so) (hv : Vld w) (hW : RwW w ra) (hQ : AllQ w qo) (hO : OwR w ow) {a b who : Nat} {p pa pb : Int32} (hp : p = nI who) (hw : isWho w who) (ha : pa = nI a) (hb : pb = nI b) (hab : a ≤ b) (hb2 : b ≤ 1800) : fnX5_paidWithin F ro po p pa pb = some (smA (pdW w who) a (b - a)) := by
  subst ha hb
  unfold fnX5_paidWithin
  rw [r_is hK, bs]
  exact c_within_loop hP hK hr hv hW hQ hO hp hw hb2 pz_F 0 (by omega) (by unfold pz_F; omega)
end CE
