/-! ===== the class's reckoner: the best claim, found ===== -/
theorem cbL_keep {w : Nat → Int32} {k : Nat} {best : Int32} {most : Int64} (hb : ¬ best = -1) : ∀ n c, (∀ d, d < n → wsp (upd w (41 + 8 * k) (nI (c + d))) k (rT w) ≤ most) → cbL w k n c best most = best
  | 0, _, _ => rfl
  | n + 1, c, h => by
    unfold cbL
    have h0 := h 0 (by omega)
    rw [show c + 0 = c from rfl] at h0
    rw [if_neg hb, if_pos h0]
    exact cbL_keep hb n (c + 1) (fun d hd => by have := h (d + 1) (by omega); rw [show c + (d + 1) = c + 1 + d by omega] at this; exact this)
theorem cbN_bd {w : Nat → Int32} (h : rT w < 1800) : 1 ≤ cbN w ∧ cbN w ≤ 241 ∧ rT w + cbN w ≤ 1800 ∧ (rT w + cbN w = 1800 ∨ cbN w = 241) := by unfold cbN; split <;> omega
theorem cbL_shared {w : Nat → Int32} (hv : Vld w) (h1 : ¬ w 1 = -1) {k : Nat} (hk : k < cP w) (hb : (w 0).toInt ≤ rT w) (hb2 : (w (35 + 8 * k)).toInt ≤ rT w) (hh : ¬ w (39 + 8 * k) = 1) : cbL w k (cbN w) (rT w) (-1) 0 = nI (rT w) := by
  obtain ⟨r1, r2, r3, r4⟩ := hv.r h1
  obtain ⟨n1, n2, n3, n4⟩ := cbN_bd r2
  rw [show cbN w = (cbN w - 1) + 1 by omega]
  unfold cbL
  rw [if_pos rfl]
  refine cbL_keep (ne_m1 (by rw [nI_toInt (by omega)]; omega)) _ _ (fun d hd => ?_)
  rw [cl_wsp hv h1 hk (by omega) (by omega), cl_wsp hv h1 hk (by omega) (by omega), if_neg hh, if_neg hh, i64_le]
  have := wsh_fall hv hk hb hb2 (Nat.le_refl (rT w)) (1 + d) (by omega)
  rw [show rT w + (1 + d) = rT w + 1 + d by omega] at this
  exact this
section CJ
variable {po ro : Nat} {w pi tm : Nat → Int32} {sr : Nat → Nat} {so qo tl : Nat → Nat → Int32} {f F : pz_H} {ra : Nat → Nat → Int32} {ow : Nat → Int64} {ch : Nat → Int32}
theorem c_best_loop (hv : Vld w) (h1 : ¬ w 1 = -1) {k : Nat} (hk : k < cP w) (hb : (w 0).toInt ≤ rT w) (hb2 : (w (35 + 8 * k)).toInt ≤ rT w) (hh : w (39 + 8 * k) = 1) (hpt : ¬ w (37 + 8 * k) = -1) (hA : RwA w ra (w (35 + 8 * k)) (rT w)) : ∀ (N n c : Nat) (best : Int32) (most : Int64), c + n = rT w + cbN w → rT w ≤ c → n < N → (best = -1 → False) → fX5_bestClaim_62 N (RB ro ra ow ch f) ro (nI (rT w)) (shr w k (rT w)) (ann w (w 0) (rT w) (rT w)) (ann w (w (35 + 8 * k)) (rT w) c) best most (nI c) = some (cbL w k n c best most, RB ro ra ow ch f) := by
  intro N
  obtain ⟨r1, r2, r3, r4⟩ := hv.r h1
  obtain ⟨n1, n2, n3, n4⟩ := cbN_bd r2
  have e2 : nI (rT w) + 240 = nI (rT w + 240) := by rw [show (240 : Int32) = nI 240 from rfl, nI_add]
  induction N with
  | zero => intro n c best most _ _ hh; omega
  | succ N ih =>
    intro n c best most hcn hrc hN hbe
    show fX5_bestClaim_62b _ _ _ _ _ _ _ _ _ _ = _
    unfold fX5_bestClaim_62b fX5_bestClaim_132
    rw [e2]
    cases n with
    | zero =>
      rcases n4 with z | z
      · by_cases c1 : nI (rT w + 240) < nI c
        · rw [if_pos c1]; rfl
        · rw [if_neg c1, if_pos (by rw [show (1800 : Int32) = nI 1800 from rfl, nI_leI (by decide) (by omega)]; omega)]; rfl
      · rw [if_pos (by rw [nI_ltI (by omega) (by omega)]; omega)]; rfl
    | succ n =>
      rw [if_neg (by rw [nI_ltI (by omega) (by omega)]; omega), if_neg (nI_1800 (by omega)), c_ownBy, bs, c_apart hv hA (hv.sp hk).1.1 hb2 rfl rfl hrc (by omega), bs]
      have nb : ¬ w 1 < w 0 := by rw [i32_lt]; omega
      have nb2 : ¬ w 1 < w (35 + 8 * k) := by rw [i32_lt]; omega
      have eo := cl_own hv h1 hk hrc (show c < 1800 by omega) hpt nb nb2
      have ew := cl_wsp hv h1 hk hrc (show c < 1800 by omega)
      rw [if_pos hh, eo] at ew
      unfold cbL
      rw [ew, if_neg hbe]
      have hann : ann w (w (35 + 8 * k)) (rT w) c - dsc w (c - rT w) * od w (w (35 + 8 * k)) (nI (rT w)) c / 1000000000 = ann w (w (35 + 8 * k)) (rT w) (c + 1) := by
        have : ann w (w (35 + 8 * k)) (rT w) c = dsc w (c - rT w) * od w (w (35 + 8 * k)) (nI (rT w)) c / 1000000000 + ann w (w (35 + 8 * k)) (rT w) (c + 1) := by
          unfold ann
          rw [show 1800 - c = (1800 - (c + 1)) + 1 by omega, smA_front]
        rw [this, Int64.add_comm, Int64.add_sub_cancel]
      have go : ∀ b m, (b = -1 → False) → fX5_bestClaim_114 (fX5_bestClaim_62 N) (RB ro ra ow ch f) ro (nI (rT w)) (shr w k (rT w)) (ann w (w 0) (rT w) (rT w)) (ann w (w (35 + 8 * k)) (rT w) c) b m (nI c) = some (cbL w k n (c + 1) b m, RB ro ra ow ch f) := by
        intro b m hb
        unfold fX5_bestClaim_114
        rw [c_annIn hv hA (hv.sp hk).1.1 hb2 rfl rfl hrc (by omega), bs, hann, nI_1]
        exact ih n (c + 1) b m (by omega) (by omega) (by omega) hb
      by_cases q : wap w (w (35 + 8 * k)) (ownB (shr w k (rT w)) (ann w (w 0) (rT w) (rT w)) (ann w (w (35 + 8 * k)) (rT w) c)) (rT w) c ≤ most
      · rw [if_pos (lg_le.mpr q), if_pos q]; exact go best most hbe
      · rw [if_neg (fun z => q (lg_le.mp z)), if_neg q]
        exact go _ _ (fun z => ne_m1 (by rw [nI_toInt (by omega)]; omega) z)
theorem c_best (h : PlF f po pi tm sr so qo tl) (hd : po + 19 ≤ ro ∨ ro + 7 ≤ po) (hr : LwR w pi tm sr so) (hy : YrR w (tl 0) (tl 1)) (hv : Vld w) {a k : Nat} {q : Nat → Int32} (hs : ∀ ra ow, SpF (RB ro ra ow ch f) a q) (hq : QR w k q) (hk : k < cP w) (h1 : ¬ w 1 = -1) (hb : (w 0).toInt ≤ rT w) (hb2 : (w (35 + 8 * k)).toInt ≤ rT w) : ∃ ra', fnX5_bestClaim (RB ro ra ow ch f) ro po a = some (cbL w k (cbN w) (rT w) (-1) 0, RB ro ra' ow ch f) := by
  obtain ⟨r1, r2, r3, r4⟩ := hv.r h1
  obtain ⟨n1, n2, n3, n4⟩ := cbN_bd r2
  have hhow := (hv.sp hk).2.2.2.2.1
  unfold fnX5_bestClaim
  rw [r_is RB_rkf, bs, p_g1 (h.rb hd), bs, hr.1.2.1, q_g4 (hs _ _), bs, hq.2.2.2.2.1]
  by_cases c : w (39 + 8 * k) = 0
  · rw [if_pos c, cbL_shared hv h1 hk hb hb2 (by rw [c]; decide), r1]
    exact ⟨ra, by rw [← r1]⟩
  · have hh := hhow.resolve_left c
    have hpt : ¬ w (37 + 8 * k) = -1 := by
      intro z
      rcases (hv.sp hk).2.2.1 with ⟨_, _, z2, _⟩ | ⟨z2, _⟩
      · exact c z2
      · have := (hv.sp hk).2.1.1
        rw [z, m1] at z2; omega
    rw [if_neg c, c_firstPay (h.rb hd) hr hv, bs, c_shareOf (h.rb hd) hr hv (hs _ _) hq, bs, p_g0 (h.rb hd), bs, hr.1.1]
    have hsh : (if nS w = 0 then 0 else (first w).toInt64 * (w (38 + 8 * k)).toInt64 * (wed w k).toInt64 / (1000 * (nS w).toInt64)) = shr w k (rT w) := by
      unfold shr; rw [whl_r hv h1]
    rw [hsh]
    obtain ⟨ra1, e1, -, -, -⟩ := c_ann (ra := ra) (ow := ow) (ch := ch) h hd hr hy hv hv.2.1.1 hb r1 r2 r1 (Nat.le_refl _) r2
    obtain ⟨ra2, e2, hA, -, -⟩ := c_ann (ra := ra1) (ow := ow) (ch := ch) h hd hr hy hv (hv.sp hk).1.1 hb2 r1 r2 r1 (Nat.le_refl _) r2
    rw [e1, bs]
    dsimp only
    rw [q_g0 (hs _ _), bs, hq.1, e2, bs]
    dsimp only
    -- the first month always counts
    refine ⟨ra2, ?_⟩
    rw [r1]
    have hpos : 0 ≤ (wap w (w (35 + 8 * k)) (ownB (shr w k (rT w)) (ann w (w 0) (rT w) (rT w)) (ann w (w (35 + 8 * k)) (rT w) (rT w))) (rT w) (rT w)).toInt := by
      have nb : ¬ w 1 < w 0 := by rw [i32_lt]; omega
      have nb2 : ¬ w 1 < w (35 + 8 * k) := by rw [i32_lt]; omega
      have eo := cl_own hv h1 hk (Nat.le_refl _) r2 hpt nb nb2
      rw [← eo]
      have hk2 : k < cP (upd w (41 + 8 * k) (nI (rT w))) := by
        have hk4 := hv.p4 hk
        unfold cP; rw [upd_n (by omega)]; exact hk
      have ob := own_bd (Vld_claims hv hk (c := nI (rT w)) (by rw [nI_toInt (by omega)]; omega) (by rw [nI_toInt (by omega)]; omega)) hk2
      exact (wap_bd hv (hv.sp hk).1.1 hb2 (Nat.le_refl _) (by omega) ob).1
    have hn : cbN w = (cbN w - 1) + 1 := by omega
    have eo := cl_own hv h1 hk (Nat.le_refl (rT w)) r2 hpt (by rw [i32_lt]; omega) (by rw [i32_lt]; omega)
    have ew := cl_wsp hv h1 hk (Nat.le_refl (rT w)) r2
    rw [if_pos hh, eo] at ew
    have key := c_best_loop (ro := ro) (f := f) (ow := ow) (ch := ch) (ra := ra2) hv h1 hk hb hb2 hh hpt hA pz_F (cbN w) (rT w) (nI (rT w)) (-1) rfl (Nat.le_refl _) (by unfold pz_F; omega) (fun z => ne_m1 (by rw [nI_toInt (by omega)]; omega) z)
    rw [key]
    congr 2
    rw [hn]
    unfold cbL
    have q1 : ¬ wap w (w (35 + 8 * k)) (ownB (shr w k (rT w)) (ann w (w 0) (rT w) (rT w)) (ann w (w (35 + 8 * k)) (rT w) (rT w))) (rT w) (rT w) ≤ -1 := by
      rw [i64_le]; have : (-1 : Int64).toInt = -1 := rfl; omega
    rw [ew, if_neg (fun z => ne_m1 (by rw [nI_toInt (by omega)]; omega) z), if_neg q1, if_pos rfl]
end CJ
