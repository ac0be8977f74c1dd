/-! ===== the class's reckoner: what is prepared, worths ===== -/
theorem vp_s {g : Nat → Int64} {k : Nat} {x : Int64} : vp_updL g k x k = x := if_pos rfl
theorem vp_n {g : Nat → Int64} {k j : Nat} {x : Int64} (h : j ≠ k) : vp_updL g k x j = g j := if_neg h
theorem mx_nat {a b : Nat} (ha : a < 2147483648) (hb : b < 2147483648) : (if nI a < nI b then nI b else nI a) = nI (if a ≤ b then b else a) := by
  by_cases c : a < b
  · rw [if_pos ((nI_ltI ha hb).mpr c), if_pos (by omega)]
  · rw [if_neg (fun z => c ((nI_ltI ha hb).mp z))]
    by_cases d : a ≤ b
    · rw [if_pos d, show a = b by omega]
    · rw [if_neg d]
section CF
variable {po ro : Nat} {w pi tm : Nat → Int32} {sr : Nat → Nat} {so qo tl : Nat → Nat → Int32} {f F : pz_H} {ra : Nat → Nat → Int32} {ow : Nat → Int64} {ch : Nat → Int32}
theorem c_prep_loop (h : PlF f po pi tm sr so qo tl) (hd : po + 19 ≤ ro ∨ ro + 7 ≤ po) (hr : LwR w pi tm sr so) (hy : YrR w (tl 0) (tl 1)) (hv : Vld w) (hQ : AllQ w qo) : ∀ (N i : Nat) (ra : Nat → Nat → Int32) (ow : Nat → Int64), RwW w ra → (∀ k, k < i → w (39 + 8 * k) = 1 → ow k = own w k) → i ≤ cP w → cP w - i < N → ∃ ra' ow', fX5_prepare_7 N (RB ro ra ow ch f) ro po (nI i) = some (RB ro ra' ow' ch f) ∧ RwW w ra' ∧ OwR w ow' := by
  intro N
  have h4 := hv.1.2.1
  induction N with
  | zero => intro i ra ow _ _ _ hh; omega
  | succ N ih =>
    intro i ra ow hW hO hi hN
    have h' := h.rb (ra := ra) (ow := ow) (ch := ch) hd
    show ∃ ra' ow', fX5_prepare_7b _ _ _ _ _ = _ ∧ _
    unfold fX5_prepare_7b
    rw [p_g8 h', bs, hr.1.2.2.2.2.2.1, h4.1]
    by_cases e : i = cP w
    · rw [if_pos (by rw [e]; exact Int32.le_refl _)]
      exact ⟨ra, ow, rfl, hW, fun k hk => hO k (by omega)⟩
    · have hlt : i < cP w := by omega
      have hs : ∀ ra ow, SpF (RB ro ra ow ch f) (po + 15 + i) (qo i) := fun ra ow => (h.rb hd).cq (hv.p4 hlt)
      have hq := hQ i hlt
      rw [if_neg (by rw [nI_leI (by omega) (by omega)]; omega), p_r7 h', bs, p_qr h' (k := i) rfl (hv.p4 hlt), bs, r_r4 RB_rkf, bs, q_g4 (hs _ _), bs, hq.2.2.2.2.1]
      have go : ∀ (ra1 : Nat → Nat → Int32) (x : Int64), RwW w ra1 → (w (39 + 8 * i) = 1 → x = own w i) → ∃ ra' ow', fX5_prepare_45 (fX5_prepare_7 N) (RB ro ra1 ow ch f) ro po (nI i) x (nI i) (ro + 5) = some (RB ro ra' ow' ch f) ∧ RwW w ra' ∧ OwR w ow' := by
        intro ra1 x hW1 hx
        unfold fX5_prepare_45
        rw [r_wo RB_rkf (k := i) rfl (hv.p4 hlt), bs, RB_RB, nI_1]
        exact ih (i + 1) ra1 (vp_updL ow i x) hW1 (fun k hk hh => by
          by_cases q : k = i
          · subst q; rw [vp_s]; exact hx hh
          · rw [vp_n q]; exact hO k (by omega) hh) (by omega) (by omega)
      by_cases c : w (39 + 8 * i) = 1
      · rw [if_pos c]
        obtain ⟨ra1, e1, f0, f2⟩ := c_ownOf (ra := ra) (ow := ow) (ch := ch) h hd hr hy hv hs hq hlt
        rw [e1, bs]
        exact go ra1 _ (fun j hj => by rw [f0]; exact hW j hj) (fun _ => rfl)
      · rw [if_neg c]
        exact go ra 0 hW (fun z => absurd z c)
theorem c_prep (h : PlF f po pi tm sr so qo tl) (hd : po + 19 ≤ ro ∨ ro + 7 ≤ po) (hr : LwR w pi tm sr so) (hy : YrR w (tl 0) (tl 1)) (hv : Vld w) (hQ : AllQ w qo) : ∃ ra' ow', fnX5_prepare (RB ro ra ow ch f) ro po = some (RB ro ra' ow' ch f) ∧ RwW w ra' ∧ OwR w ow' := by
  unfold fnX5_prepare
  obtain ⟨r0, e1, f1⟩ := c_fillW (ra := ra) (ow := ow) (ch := ch) h hd hr hv
  rw [r_is RB_rkf, bs, e1, bs]
  exact c_prep_loop h hd hr hy hv hQ pz_F 0 (va_up ra 0 r0) ow (fun j hj => by rw [up_s]; exact f1 j hj) (fun k hk => by omega) (by omega) (by have := hv.1.2.1.2; unfold pz_F; omega)
theorem c_wal_loop (hv : Vld w) {t s : Nat} (hW : RwW w ra) (hD : ∀ k, k < 1800 → ra 1 k = (dsc w k).toInt32) (hM : ∀ m, t ≤ m → m < 1800 → ra 2 m = (od w (w 0) (nI t) m).toInt32) (hbt : (w 0).toInt ≤ t) (hts : t ≤ s) (hs : s ≤ 1800) : ∀ (N i : Nat), s + i ≤ 1800 → 1800 - (s + i) < N → fX5_worthOfAll_35 N (RB ro ra ow ch f) ro (nI t) (smA (fun m => dsc w (m - t) * (whl w m * od w (w 0) (nI t) m / 1000000000) / 1000000000) s i) (nI (s + i)) = some (smA (fun m => dsc w (m - t) * (whl w m * od w (w 0) (nI t) m / 1000000000) / 1000000000) s (1800 - s), RB ro ra ow ch f) := by
  intro N
  induction N with
  | zero => intro i _ hh; omega
  | succ N ih =>
    intro i hi hN
    show fX5_worthOfAll_35b _ _ _ _ _ _ = _
    unfold fX5_worthOfAll_35b
    by_cases e : s + i = 1800
    · rw [e, if_pos (by decide), show 1800 - s = i by omega]
    · rw [if_neg (nI_1800 (by omega)), r_r1 RB_rkf, bs, nI_sub (by omega), r_i1 RB_rkf (k := s + i - t) rfl (by omega), bs, r_r0 RB_rkf, bs, r_i0 RB_rkf (k := s + i) rfl (by omega), bs, r_r2 RB_rkf, bs, r_i2 RB_rkf (k := s + i) rfl (by omega), bs, hD _ (by omega), hW _ (by omega), hM _ (by omega) (by omega), dsc_64 hv, whl_64 hv (by omega), od_64 hv hv.2.1.1 hbt (by omega) (by omega), nI_1]
      exact ih (i + 1) (by omega) (by omega)
theorem c_worthAll (h : PlF f po pi tm sr so qo tl) (hd : po + 19 ≤ ro ∨ ro + 7 ≤ po) (hr : LwR w pi tm sr so) (hy : YrR w (tl 0) (tl 1)) (hv : Vld w) (h1 : ¬ w 1 = -1) {t : Nat} {p : Int32} (hp : p = nI t) (ht : t < 1800) (hbt : (w 0).toInt ≤ t) : ∃ ra', fnX5_worthOfAll (RB ro ra ow ch f) ro po p = some (wal w t, RB ro ra' ow ch f) := by
  subst hp
  obtain ⟨r1, r2, r3, r4⟩ := hv.r h1
  unfold fnX5_worthOfAll wal
  obtain ⟨a0, e0, f0⟩ := c_fillW (ra := ra) (ow := ow) (ch := ch) h hd hr hv
  obtain ⟨a1, e1, f1⟩ := c_fillD (ra := va_up ra 0 a0) (ow := ow) (ch := ch) h hd hr hv
  obtain ⟨a2, e2, f2⟩ := c_fillO2 (ra := va_up (va_up ra 0 a0) 1 a1) (ow := ow) (ch := ch) h hd hr hy hv hv.2.1.1 hbt rfl ht
  rw [r_is RB_rkf, bs, e0, bs, e1, bs, p_g0 (h.rb hd), bs, hr.1.1, r_r2 RB_rkf, bs, e2, bs, p_g1 (h.rb hd), bs, hr.1.2.1, r1, mx_nat (by omega) (by omega)]
  have hs : t ≤ walS w t ∧ walS w t ≤ 1800 := by unfold walS; split <;> omega
  have key := c_wal_loop (ro := ro) (f := f) (ow := ow) (ch := ch) (ra := va_up (va_up (va_up ra 0 a0) 1 a1) 2 a2) hv (t := t) (s := walS w t) (fun j hj => by rw [up_n (by decide), up_n (by decide), up_s]; exact f0 j hj) (fun k hk => by rw [up_n (by decide), up_s]; exact f1 k hk) (fun m ha hb => by rw [up_s]; exact f2 m ha hb) hbt hs.1 hs.2 pz_F 0 (by omega) (by unfold pz_F; omega)
  exact ⟨_, key⟩
/-- what a sum apart is -/
def wap (w : Nat → Int32) (b : Int32) (x : Int64) (t s : Nat) : Int64 := smA (fun m => dsc w (m - t) * (x * od w b (nI t) m / 1000000000) / 1000000000) s (1800 - s)
theorem c_apart_loop (hv : Vld w) {b : Int32} {x : Int64} {t s : Nat} (hA : RwA w ra b t) (hb : 0 ≤ b.toInt) (hbt : b.toInt ≤ t) (hts : t ≤ s) (hs : s ≤ 1800) : ∀ (N i : Nat), s + i ≤ 1800 → 1800 - (s + i) < N → fX5_worthApart_7 (RB ro ra ow ch f) N ro x (nI t) (smA (fun m => dsc w (m - t) * (x * od w b (nI t) m / 1000000000) / 1000000000) s i) (nI (s + i)) = some (wap w b x t s) := by
  intro N
  induction N with
  | zero => intro i _ hh; omega
  | succ N ih =>
    intro i hi hN
    show fX5_worthApart_7b _ _ _ _ _ _ _ = _
    unfold fX5_worthApart_7b
    by_cases e : s + i = 1800
    · rw [e, if_pos (by decide)]
      unfold wap
      rw [show 1800 - s = i by omega]
    · rw [if_neg (nI_1800 (by omega)), r_r1 RB_rkf, bs, nI_sub (by omega), r_i1 RB_rkf (k := s + i - t) rfl (by omega), bs, r_r3 RB_rkf, bs, r_i3 RB_rkf (k := s + i) rfl (by omega), bs, hA.1 _ (by omega), hA.2 _ (by omega) (by omega), dsc_64 hv, od_64 hv hb hbt (by omega) (by omega), nI_1]
      exact ih (i + 1) (by omega) (by omega)
theorem c_apart (hv : Vld w) {b : Int32} {x : Int64} {t s : Nat} {p q : Int32} (hA : RwA w ra b t) (hb : 0 ≤ b.toInt) (hbt : b.toInt ≤ t) (hp : p = nI t) (hq : q = nI s) (hts : t ≤ s) (hs : s ≤ 1800) : fnX5_worthApart (RB ro ra ow ch f) ro x p q = some (wap w b x t s) := by
  subst hp hq
  unfold fnX5_worthApart
  rw [r_is RB_rkf, bs]
  exact c_apart_loop hv hA hb hbt hts hs pz_F 0 (by omega) (by unfold pz_F; omega)
/-- what a sum shared is -/
def wsh (w : Nat → Int32) (k t s : Nat) : Int64 := smA (fun m => dsc w (m - t) * ((shr w k m * (od w (w 0) (nI t) m * od w (w (35 + 8 * k)) (nI t) m / 1000000000) + shr w k m * (w (40 + 8 * k)).toInt64 / 1000 * (od w (w (35 + 8 * k)) (nI t) m - od w (w 0) (nI t) m * od w (w (35 + 8 * k)) (nI t) m / 1000000000)) / 1000000000) / 1000000000) s (1800 - s)
theorem c_shared_loop (h : PlF f po pi tm sr so qo tl) (hd : po + 19 ≤ ro ∨ ro + 7 ≤ po) (hr : LwR w pi tm sr so) (hv : Vld w) {a k : Nat} {q : Nat → Int32} (hs : ∀ ra ow, SpF (RB ro ra ow ch f) a q) (hq : QR w k q) (hk : k < cP w) {t s : Nat} (hW : RwW w ra) (hA : RwA w ra (w (35 + 8 * k)) t) (hM : ∀ m, t ≤ m → m < 1800 → ra 2 m = (od w (w 0) (nI t) m).toInt32) (hbt : (w 0).toInt ≤ t) (hbs : (w (35 + 8 * k)).toInt ≤ t) (hts : t ≤ s) : ∀ (N i : Nat), s + i ≤ 1800 → 1800 - (s + i) < N → fX5_worthShared_7 (RB ro ra ow ch f) N ro po a (nI t) (smA (fun m => dsc w (m - t) * ((shr w k m * (od w (w 0) (nI t) m * od w (w (35 + 8 * k)) (nI t) m / 1000000000) + shr w k m * (w (40 + 8 * k)).toInt64 / 1000 * (od w (w (35 + 8 * k)) (nI t) m - od w (w 0) (nI t) m * od w (w (35 + 8 * k)) (nI t) m / 1000000000)) / 1000000000) / 1000000000) s i) (nI (s + i)) = some (wsh w k t s) := by
  intro N
  have h' := h.rb (ra := ra) (ow := ow) (ch := ch) hd
  induction N with
  | zero => intro i _ hh; omega
  | succ N ih =>
    intro i hi hN
    show fX5_worthShared_7b _ _ _ _ _ _ _ _ = _
    unfold fX5_worthShared_7b
    by_cases e : s + i = 1800
    · rw [e, if_pos (by decide)]
      unfold wsh
      rw [show 1800 - s = i by omega]
    · rw [if_neg (nI_1800 (by omega)), r_r0 RB_rkf, bs, r_i0 RB_rkf (k := s + i) rfl (by omega), bs, hW _ (by omega), c_shareW h' hr hv (hs _ _) hq (by omega), bs, q_g5 (hs _ _), bs, hq.2.2.2.2.2.1, r_r2 RB_rkf, bs, r_i2 RB_rkf (k := s + i) rfl (by omega), bs, r_r3 RB_rkf]
      simp only [bs]
      rw [r_i3 RB_rkf (k := s + i) rfl (by omega)]
      simp only [bs]
      rw [r_r1 RB_rkf, bs, nI_sub (by omega), r_i1 RB_rkf (k := s + i - t) rfl (by omega), bs, hA.1 _ (by omega), hA.2 _ (by omega) (by omega), hM _ (by omega) (by omega), dsc_64 hv, od_64 hv hv.2.1.1 hbt (by omega) (by omega), od_64 hv (hv.sp hk).1.1 hbs (by omega) (by omega), nI_1]
      exact ih (i + 1) (by omega) (by omega)
theorem wsp_how {w : Nat → Int32} {k t : Nat} : wsp w k t = if w (39 + 8 * k) = 1 then wap w (w (35 + 8 * k)) (own w k) t (fwS w k t) else wsh w k t (fwS w k t) := by
  unfold wsp wX wap wsh
  by_cases c : w (39 + 8 * k) = 1
  · simp only [if_pos c]
  · simp only [if_neg c]
theorem c_worthSp (h : PlF f po pi tm sr so qo tl) (hd : po + 19 ≤ ro ∨ ro + 7 ≤ po) (hr : LwR w pi tm sr so) (hy : YrR w (tl 0) (tl 1)) (hv : Vld w) {a k : Nat} {q : Nat → Int32} (hs : ∀ ra ow, SpF (RB ro ra ow ch f) a q) (hq : QR w k q) (hk : k < cP w) (h1 : ¬ w 1 = -1) {t : Nat} {p : Int32} (hp : p = nI t) (ht : t < 1800) (hbt : (w 0).toInt ≤ t) (hbs : (w (35 + 8 * k)).toInt ≤ t) : ∃ ra', fnX5_worthOfSpouse (RB ro ra ow ch f) ro po a p = some (wsp w k t, RB ro ra' ow ch f) := by
  subst hp
  obtain ⟨b1, b2, b3⟩ := hv.b h1 hk
  have hfs : t ≤ fwS w k t ∧ fwS w k t ≤ 1800 := by unfold fwS; split <;> omega
  have hsb := (hv.sp hk).1.1
  have go : ∀ (ra : Nat → Nat → Int32) (x : Int64), (w (39 + 8 * k) = 1 → x = own w k) → ∃ ra', fX5_worthOfSpouse_18 (RB ro ra ow ch f) ro po a (nI t) x = some (wsp w k t, RB ro ra' ow ch f) := by
    intro ra x hx
    unfold fX5_worthOfSpouse_18
    obtain ⟨a1, e1, f1⟩ := c_fillD (ra := ra) (ow := ow) (ch := ch) h hd hr hv
    obtain ⟨a3, e3, f3⟩ := c_fillO3 (ra := va_up ra 1 a1) (ow := ow) (ch := ch) h hd hr hy hv hsb hbs rfl ht
    rw [c_beginOf (h.rb hd) hr (hs _ _) hq, bs, e1, bs, q_g0 (hs _ _), bs, hq.1, r_r3 RB_rkf, bs, e3, bs, q_g4 (hs _ _), bs, hq.2.2.2.2.1, wsp_how]
    have hA : RwA w (va_up (va_up ra 1 a1) 3 a3) (w (35 + 8 * k)) t := ⟨fun k hk => by rw [up_n (by decide), up_s]; exact f1 k hk, fun m ha hb => by rw [up_s]; exact f3 m ha hb⟩
    have efs : (if beg w k < nI t then nI t else beg w k) = nI (fwS w k t) := by rw [b1, mx_nat (by omega) (by omega)]; rfl
    rw [efs]
    by_cases c : w (39 + 8 * k) = 1
    · rw [if_pos c, if_pos c, c_apart hv hA hsb hbs rfl rfl hfs.1 hfs.2, bs, hx c]
      exact ⟨_, rfl⟩
    · rw [if_neg c, if_neg c]
      obtain ⟨a0, e0, f0⟩ := c_fillW (ra := va_up (va_up ra 1 a1) 3 a3) (ow := ow) (ch := ch) h hd hr hv
      obtain ⟨a2, e2, f2⟩ := c_fillO2 (ra := va_up (va_up (va_up ra 1 a1) 3 a3) 0 a0) (ow := ow) (ch := ch) h hd hr hy hv hv.2.1.1 hbt rfl ht
      rw [e0, bs, p_g0 (h.rb hd), bs, hr.1.1, r_r2 RB_rkf, bs, e2, bs]
      unfold fnX5_worthShared
      rw [r_is RB_rkf, bs]
      have key := c_shared_loop (ra := va_up (va_up (va_up (va_up ra 1 a1) 3 a3) 0 a0) 2 a2) (ow := ow) h hd hr hv hs hq hk (t := t) (s := fwS w k t) (fun j hj => by rw [up_n (by decide), up_s]; exact f0 j hj) ⟨fun k hk => by rw [up_n (by decide), up_n (by decide)]; exact hA.1 k hk, fun m ha hb => by rw [up_n (by decide), up_n (by decide)]; exact hA.2 m ha hb⟩ (fun m ha hb => by rw [up_s]; exact f2 m ha hb) hbt hbs hfs.1 pz_F 0 (by omega) (by unfold pz_F; omega)
      have key2 : fX5_worthShared_7 (RB ro (va_up (va_up (va_up (va_up ra 1 a1) 3 a3) 0 a0) 2 a2) ow ch f) pz_F ro po a (nI t) 0 (nI (fwS w k t)) = _ := key
      rw [key2, bs]
      exact ⟨_, rfl⟩
  unfold fnX5_worthOfSpouse
  rw [r_is RB_rkf, bs, q_g4 (hs _ _), bs, hq.2.2.2.2.1]
  by_cases c : w (39 + 8 * k) = 1
  · rw [if_pos c]
    obtain ⟨ra1, e1, -, -⟩ := c_ownOf (ra := ra) (ow := ow) (ch := ch) h hd hr hy hv hs hq hk
    rw [e1, bs]
    exact go ra1 _ (fun _ => rfl)
  · rw [if_neg c]
    exact go ra 0 (fun z => absurd z c)
end CF
