/-! ===== the class's reckoner: the half, found ===== -/
theorem hfL_at {w : Nat → Int32} {k : Nat} {all : Int64} {L : Nat} (hL : L ≤ 1001) (h1 : ∀ p, p < L → 2 * wsp (pW w k p) k (rT w) < all) (h2 : L ≤ 1000 → ¬ 2 * wsp (pW w k L) k (rT w) < all) : ∀ n p, p + n = 1001 → p ≤ L → hfL w k all n p = if 1000 < L then -1 else nI L
  | 0, p, hn, hp => by rw [if_pos (by omega)]; rfl
  | n + 1, p, hn, hp => by
    unfold hfL
    by_cases e : p = L
    · subst e
      have := h2 (by omega)
      unfold pW at this
      rw [if_neg this, if_neg (by omega)]
    · have := h1 p (by omega)
      unfold pW at this
      rw [if_pos this]
      exact hfL_at hL h1 h2 n (p + 1) (by omega) (by omega)
section CL
variable {po ro : Nat} {w pi tm : Nat → Int32} {sr : Nat → Nat} {so qo tl : Nat → Nat → Int32} {f F : pz_H} {ra : Nat → Nat → Int32} {ow : Nat → Int64} {ch : Nat → Int32}
theorem c_half_loop (h : PlF f po pi tm sr so qo tl) (hd : po + 19 ≤ ro ∨ ro + 7 ≤ po) (hr : LwR w pi tm sr so) (hy : YrR w (tl 0) (tl 1)) (hv : Vld w) {k : Nat} {q : Nat → Int32} (hq : QR w k q) (hk : k < cP w) (hpt : ¬ w (37 + 8 * k) = -1) (h1 : ¬ w 1 = -1) (hb : (w 0).toInt ≤ rT w) (hb2 : (w (35 + 8 * k)).toInt ≤ rT w) {all : Int64} : ∀ (N j lo hi : Nat) (ra : Nat → Nat → Int32) (ch : Nat → Int32), (∀ i, i < 9 → i ≠ 3 → ch i = q i) → lo ≤ hi → hi ≤ 1001 → j ≤ 16 → hi - lo < 2 ^ j → j < N → (∀ p, p < lo → 2 * wsp (pW w k p) k (rT w) < all) → (∀ p, hi ≤ p → p ≤ 1000 → ¬ 2 * wsp (pW w k p) k (rT w) < all) → ∃ ra' ch', fX5_leastHalf_29 N (RB ro ra ow ch f) ro po all (nI lo) (nI hi) (nI (16 - j)) = some (hfL w k all 1001 0, RB ro ra' ow ch' f) := by
  intro N
  have hk4 := hv.p4 hk
  obtain ⟨r1, r2, r3, r4⟩ := hv.r h1
  induction N with
  | zero => intro j lo hi ra ch _ _ _ _ _ hh; omega
  | succ N ih =>
    intro j lo hi ra ch hch hlh hhi hj hrng hN hlo hhi2
    show ∃ ra' ch', fX5_leastHalf_29b _ _ _ _ _ _ _ _ = _
    unfold fX5_leastHalf_29b
    have fin : lo = hi → ∃ ra' ch', fX5_leastHalf_110 (RB ro ra ow ch f) (nI lo) = some (hfL w k all 1001 0, RB ro ra' ow ch' f) := by
      intro e
      subst e
      rw [hfL_at hhi hlo (fun z => hhi2 lo (Nat.le_refl _) z) 1001 0 (by omega) (by omega)]
      unfold fX5_leastHalf_110 fX5_leastHalf_124
      by_cases c : lo ≤ 1000
      · rw [if_pos (by rw [show (1000 : Int32) = nI 1000 from rfl, nI_leI (by omega) (by decide)]; exact c), if_neg (by omega)]
        exact ⟨ra, ch, rfl⟩
      · rw [if_neg (by rw [show (1000 : Int32) = nI 1000 from rfl, nI_leI (by omega) (by decide)]; exact c), if_pos (by omega)]
        exact ⟨ra, ch, rfl⟩
    cases j with
    | zero =>
      rw [if_pos (by decide)]
      exact fin (by have : (2 : Nat) ^ 0 = 1 := rfl; omega)
    | succ j =>
      rw [if_neg (by rw [show (16 : Int32) = nI 16 from rfl, nI_leI (by decide) (by omega)]; omega)]
      by_cases e : hi ≤ lo
      · rw [if_pos (by rw [nI_leI (by omega) (by omega)]; exact e)]
        exact fin (by omega)
      rw [if_neg (by rw [nI_leI (by omega) (by omega)]; exact e)]
      have em : (nI lo + nI hi) / 2 = nI ((lo + hi) / 2) := by
        have x2 : (2 : Int32).toInt = 2 := rfl
        rw [nI_add, i32_eq, i32_div (by rw [nI_toInt (by omega)]; omega) (by decide), nI_toInt (by omega), nI_toInt (by omega), x2]
        omega
      have hmid : (lo + hi) / 2 ≤ 1000 := by omega
      have hml : lo ≤ (lo + hi) / 2 ∧ (lo + hi) / 2 < hi := by omega
      have h2p : (2 : Nat) ^ (j + 1) = 2 * 2 ^ j := by rw [Nat.pow_succ]; omega
      rw [em, r_r5 RB_rkf, bs, r_c3 RB_rkf, bs, RB_RB, if_neg (by rw [show (1000 : Int32) = nI 1000 from rfl, nI_ltI (by decide) (by omega)]; omega), r_r5 RB_rkf, bs, p_g1 (h.rb hd), bs, hr.1.2.1]
      generalize hM : (lo + hi) / 2 = M at *
      have hl := pW_lk (w := w) hk4 M
      have hq' : QR (pW w k M) k (va_up ch 3 (nI M)) := by
        obtain ⟨q0, q1, q2, q3, q4, q5, q6, q7, q8⟩ := hq
        refine ⟨?_, ?_, ?_, ?_, ?_, ?_, ?_, ?_, ?_⟩
        · rw [up_n (by decide), hch 0 (by decide) (by decide), pW_n (by omega)]; exact q0
        · rw [up_n (by decide), hch 1 (by decide) (by decide), pW_n (by omega)]; exact q1
        · rw [up_n (by decide), hch 2 (by decide) (by decide), pW_n (by omega)]; exact q2
        · rw [up_s, pW_s]
        · rw [up_n (by decide), hch 4 (by decide) (by decide), pW_n (by omega)]; exact q4
        · rw [up_n (by decide), hch 5 (by decide) (by decide), pW_n (by omega)]; exact q5
        · rw [up_n (by decide), hch 6 (by decide) (by decide), pW_n (by omega)]; exact q6
        · rw [up_n (by decide), hch 7 (by decide) (by decide), pW_n (by omega)]; exact q7
        · rw [up_n (by decide), hch 8 (by decide) (by decide), wed_lk hv.c hl (pW_n (by omega)) (pW_n (by omega))]; exact q8
      obtain ⟨ra1, e1⟩ := c_worthSp (w := pW w k M) (ra := ra) (ow := ow) (ch := va_up ch 3 (nI M)) h hd (hr.lk hv.c hl) (hy.lk hl) (pW_v hv hk hpt hmid) (fun ra ow => (RB_rkf (ro := ro)).sp) hq' (pW_k hv hk) (by rw [pW_n (by omega)]; exact h1) r1 r2 (by rw [pW_n (by omega)]; exact hb) (by rw [pW_n (by omega)]; exact hb2)
      rw [e1, bs]
      dsimp only
      have hch' : ∀ i, i < 9 → i ≠ 3 → va_up ch 3 (nI M) i = q i := fun i a b => by rw [up_n b]; exact hch i a b
      unfold fX5_leastHalf_100 fX5_leastHalf_104
      have es : nI (16 - (j + 1)) + 1 = nI (16 - j) := by rw [nI_1, show 16 - (j + 1) + 1 = 16 - j by omega]
      rw [es]
      have two : ∀ p, p ≤ 1000 → (2 * wsp (pW w k p) k (rT w)).toInt = 2 * (wsp (pW w k p) k (rT w)).toInt := fun p hp => by
        have b := wsp_pm hv hk hpt h1 hb hb2 (Nat.le_refl p) hp
        have x2 : (2 : Int64).toInt = 2 := rfl
        rw [i64_mul (by rw [x2]; omega) (by rw [x2]; omega), x2]
      by_cases c : 2 * wsp (pW w k M) k (rT w) < all
      · rw [if_neg (by
          have := lg_lt.mpr c
          rw [i32_lt, z32] at this
          rw [i32_le, z32]; omega), nI_1]
        refine ih j (M + 1) hi ra1 _ hch' (by omega) hhi (by omega) (by omega) (by omega) (fun p hp => ?_) hhi2
        by_cases z : p < lo
        · exact hlo p z
        · have b := wsp_pm hv hk hpt h1 hb hb2 (show p ≤ M by omega) hmid
          rw [i64_lt, two p (by omega)]
          rw [i64_lt, two M hmid] at c
          omega
      · rw [if_pos (by
          rw [i32_le, z32]
          refine Int.not_lt.mp (fun z => c (lg_lt.mp (by rw [i32_lt, z32]; exact z))))]
        refine ih j lo M ra1 _ hch' (by omega) (by omega) (by omega) (by omega) (by omega) hlo (fun p hp hp2 => ?_)
        have b := wsp_pm hv hk hpt h1 hb hb2 (show M ≤ p by omega) hp2
        rw [i64_lt, two p (by omega)]
        rw [i64_lt, two M hmid] at c
        omega
theorem c_half (h : PlF f po pi tm sr so qo tl) (hd : po + 19 ≤ ro ∨ ro + 7 ≤ po) (hr : LwR w pi tm sr so) (hy : YrR w (tl 0) (tl 1)) (hv : Vld w) {a k : Nat} {q : Nat → Int32} (hs : ∀ ra ow ch, SpF (RB ro ra ow ch f) a q) (hq : QR w k q) (hk : k < cP w) (hpt : ¬ w (37 + 8 * k) = -1) (h1 : ¬ w 1 = -1) (hb : (w 0).toInt ≤ rT w) (hb2 : (w (35 + 8 * k)).toInt ≤ rT w) : ∃ ra' ch', fnX5_leastHalf (RB ro ra ow ch f) ro po a = some (hfL w k (wal w (rT w)) 1001 0, RB ro ra' ow ch' f) := by
  obtain ⟨r1, r2, r3, r4⟩ := hv.r h1
  unfold fnX5_leastHalf
  obtain ⟨ra1, e1⟩ := c_worthAll (ra := ra) (ow := ow) (ch := ch) h hd hr hy hv h1 r1 r2 hb
  obtain ⟨ch1, e3, f3⟩ := c_copy (ro := ro) (ra := ra1) (ow := ow) (ch := ch) (f := f) (fun ch => hs ra1 ow ch)
  rw [r_is RB_rkf, bs, p_g1 (h.rb hd), bs, hr.1.2.1, e1, bs]
  dsimp only
  rw [r_r5 RB_rkf, bs, e3, bs]
  exact c_half_loop h hd hr hy hv hq hk hpt h1 hb hb2 pz_F 16 0 1001 ra1 ch1 (fun i a _ => f3 i a) (by omega) (by omega) (by omega) (by decide) (by unfold pz_F; omega) (fun p hp => by omega) (fun p hp hp2 => by omega)
end CL
