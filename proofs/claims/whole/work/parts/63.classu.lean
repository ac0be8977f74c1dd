/-! ===== the class's plan: what may change, what stands there, the change ===== -/
theorem plcC {w : Nat → Int32} (hv : Vld w) {p k v : Int32} (h : ¬ plc w p k v = -1) : (p = 0 ∧ plc w p k v = nI 1) ∨ (p = 6 ∧ plc w p k v = nI 2) ∨ (∃ i, i < 5 ∧ p = nI (10 + i) ∧ plc w p k v = nI (6 + i)) ∨ ∃ q o, q < cP w ∧ k = nI q ∧ 1 ≤ o ∧ o ≤ 5 ∧ p = nI o ∧ plc w p k v = nI (37 + 8 * q + o) := by
  by_cases c0 : inI p 10 14 = 0
  · by_cases c1 : p = 0
    · left; refine ⟨c1, ?_⟩
      unfold plc at h ⊢
      rw [if_pos c0, if_pos c1] at h ⊢
      revert h
      (repeat' split) <;> intro h <;> first | rfl | exact absurd rfl h
    by_cases c2 : p = 6
    · right; left; refine ⟨c2, ?_⟩
      unfold plc at h ⊢
      rw [if_pos c0, if_neg c1, if_pos c2] at h ⊢
      revert h
      (repeat' split) <;> intro h <;> first | rfl | exact absurd rfl h
    right; right; right
    by_cases c3 : inI p 1 5 = 0
    · exfalso; apply h; unfold plc; rw [if_pos c0, if_neg c1, if_neg c2, if_pos c3]
    by_cases c4 : inI k 0 (w 4 - 1) = 0
    · exfalso; apply h; unfold plc; rw [if_pos c0, if_neg c1, if_neg c2, if_neg c3, if_pos c4]
    have e : plc w p k v = spT p k := by
      unfold plc at h ⊢
      rw [if_pos c0, if_neg c1, if_neg c2, if_neg c3, if_neg c4] at h ⊢
      revert h
      (repeat' split) <;> intro h <;> first | rfl | exact absurd rfl h
    obtain ⟨k1, k2⟩ := spo_of hv c4
    have hp := inI_of c3
    have x1 : (1 : Int32).toInt = 1 := rfl
    have x5 : (5 : Int32).toInt = 5 := rfl
    obtain ⟨p1, p2⟩ := nI_clampI (x := p) (by omega)
    exact ⟨_, _, k2, k1, by omega, by omega, p1, by rw [e]; exact spT_nI k1 p1⟩
  · right; right; left
    have hp := inI_of c0
    have x10 : (10 : Int32).toInt = 10 := rfl
    have x14 : (14 : Int32).toInt = 14 := rfl
    have e : plc w p k v = (6 + p) - 10 := by
      unfold plc at h ⊢
      rw [if_neg c0] at h ⊢
      revert h
      split <;> intro h <;> first | rfl | exact absurd rfl h
    have q : p = 10 ∨ p = 11 ∨ p = 12 ∨ p = 13 ∨ p = 14 := by
      simp only [i32_eq]
      have : (11 : Int32).toInt = 11 := rfl
      have : (12 : Int32).toInt = 12 := rfl
      have : (13 : Int32).toInt = 13 := rfl
      omega
    rcases q with q | q | q | q | q
    · exact ⟨0, by decide, q, by rw [e, q]; rfl⟩
    · exact ⟨1, by decide, q, by rw [e, q]; rfl⟩
    · exact ⟨2, by decide, q, by rw [e, q]; rfl⟩
    · exact ⟨3, by decide, q, by rw [e, q]; rfl⟩
    · exact ⟨4, by decide, q, by rw [e, q]; rfl⟩
section CU
variable {po z : Nat} {w pi tm : Nat → Int32} {sr : Nat → Nat} {so qo tl : Nat → Nat → Int32} {f : pz_H}
theorem c_isWithin (hs : StaF z f) {s : Nat} {p : Int32} (hp : p = nI s) (h13 : s < 13) (v : Int32) : fnX9_isWithin f p v = some (inI v (slL s) (slM s)) := by
  subst hp
  unfold fnX9_isWithin fX9_isWithin_34 fX9_isWithin_35 inI
  rw [if_neg (nI_pos (by omega)), (rwK_of hs.2.2.1 (by decide)).2.1, bs, if_neg (by rw [nI_leI (by decide) (by omega)]; omega), (rwK_of hs.2.1 (by decide)).1 _ s rfl h13, bs]
  by_cases c : v < slL s
  · rw [if_pos c, if_pos c, pb0]
  rw [if_neg c, if_neg c, (rwK_of hs.2.2.1 (by decide)).1 _ s rfl h13, bs]
  by_cases d : slM s < v
  · rw [if_pos d, if_pos d, pb0]
  · rw [if_neg d, if_neg d, pb1]
theorem c_canChange (h : PlF f po pi tm sr so qo tl) (hs : StaF z f) (hr : PlnR w pi tm sr so qo tl) (hv : Vld w) (p k v : Int32) : fnX3_canChange f po p k v = some (if plc w p k v = -1 then 0 else 1) := by
  have n1 : ¬ (1 : Int32) = -1 := by decide
  have n2 : ¬ (2 : Int32) = -1 := by decide
  have b0 : pz_b 0 = some 0 := rfl
  unfold fnX3_canChange
  simp only [fX3_canChange_121, fX3_canChange_178, fX3_canChange_177, fX3_canChange_197, fX3_canChange_196, fX3_canChange_216, fX3_canChange_215, fX3_canChange_247, fX3_canChange_243, fX3_canChange_248, fX3_canChange_87, fX3_canChange_83, fX3_canChange_88, fX3_canChange_55, fX3_canChange_51, fX3_canChange_56, p_is h, bs, c_isTerm, c_isMonth, p_g0 h, c_lastTo h hr.1 hv.c, c_hasSpouse h hr.1 hv.c, pb0, pb1, hr.1.1.1, pb_in]
  by_cases c0 : inI p 10 14 = 0
  · rw [if_pos c0]
    by_cases c1 : p = 0
    · unfold plc crI
      rw [if_pos c1, if_pos c0, if_pos c1]
      by_cases d1 : v = -1
      · rw [if_pos d1, if_pos d1, if_neg n1]
      rw [if_neg d1, if_neg d1]
      by_cases d2 : inI v 0 1799 = 0
      · rw [if_pos d2, if_pos d2, if_pos rfl, if_pos rfl]
      rw [if_neg d2, if_neg d2]
      by_cases d3 : v < w 0
      · rw [if_pos d3, if_pos d3, if_pos rfl, if_pos rfl]
      rw [if_neg d3, if_neg d3]
      by_cases d4 : v < lstW w
      · rw [if_pos d4, if_pos d4, if_pos rfl, if_pos rfl]
      · rw [if_neg d4, if_neg d4, if_neg one_0, if_neg n1]
    rw [if_neg c1]
    by_cases c2 : p = 6
    · unfold plc
      rw [if_pos c2, if_pos c0, if_neg c1, if_pos c2]
      by_cases d1 : v = -1
      · rw [if_pos d1, if_pos d1, if_neg n2]
      rw [if_neg d1, if_neg d1]
      by_cases d2 : inI v 0 1799 = 0
      · rw [if_pos d2, if_pos d2, if_pos rfl]
      rw [if_neg d2, if_neg d2]
      by_cases d3 : v ≤ w 0
      · rw [if_pos d3, if_pos d3, if_pos rfl]
      · rw [if_neg d3, if_neg d3, if_neg n2]
    rw [if_neg c2]
    by_cases c4 : inI k 0 (w 4 - 1) = 0
    · have e : plc w p k v = -1 := by
        unfold plc; rw [if_pos c0, if_neg c1, if_neg c2, if_pos c4]; split <;> rfl
      rw [if_pos c4, e, if_pos rfl]
    rw [if_neg c4]
    obtain ⟨k1, k2⟩ := spo_of hv c4
    have hk4 := hv.p4 k2
    have hS := h.cq hk4
    have hq := hr.2.1 _ k2
    rw [p_r7 h, bs, p_qr h k1 hk4, bs, q_g2 hS, bs, hq.2.2.1]
    have w5 : fnX9_isWithin f 5 v = some (inI v 0 1000) := c_isWithin hs (s := 5) rfl (by decide) v
    have w2 : fnX9_isWithin f 2 v = some (inI v 0 1) := c_isWithin hs (s := 2) rfl (by decide) v
    simp only [q_g0 hS, bs, hq.1, w5, w2]
    by_cases c3 : inI p 1 5 = 0
    · have e : plc w p k v = -1 := by
        unfold plc; rw [if_pos c0, if_neg c1, if_neg c2, if_pos c3]
      have nn : ¬ p = 1 ∧ ¬ p = 2 ∧ ¬ p = 3 ∧ ¬ p = 4 ∧ ¬ p = 5 := by
        refine ⟨?_, ?_, ?_, ?_, ?_⟩ <;> (intro q; subst q; exact absurd c3 (by decide))
      obtain ⟨z1, z2, z3, z4, z5⟩ := nn
      rw [e, if_pos rfl]
      simp only [if_neg z1, if_neg z2, if_neg z3, if_neg z4, if_neg z5]
      split <;> rfl
    have hp := inI_of c3
    have x1 : (1 : Int32).toInt = 1 := rfl
    have x5 : (5 : Int32).toInt = 5 := rfl
    obtain ⟨p1, p2⟩ := nI_clampI (x := p) (by omega)
    have hT : ¬ spT p k = -1 := by
      rw [spT_nI k1 p1]; exact ne_m1 (by rw [nI_toInt (by omega)]; omega)
    have hq5 : p = 1 ∨ p = 2 ∨ p = 3 ∨ p = 4 ∨ p = 5 := by
      simp only [i32_eq]
      have : (2 : Int32).toInt = 2 := rfl
      have : (3 : Int32).toInt = 3 := rfl
      have : (4 : Int32).toInt = 4 := rfl
      omega
    unfold plc
    rw [if_pos c0, if_neg c1, if_neg c2, if_neg c3, if_neg c4]
    rcases hq5 with q | q | q | q | q
    · subst q
      simp only [show ¬ (1 : Int32) = 4 by decide, show ¬ (1 : Int32) = 5 by decide, show ¬ (1 : Int32) = 2 by decide, ↓reduceIte]
      by_cases d1 : w (37 + 8 * k.toNatClampNeg) = -1
      · simp only [d1, ↓reduceIte]
      · simp only [d1, ↓reduceIte, one_0]
        by_cases d2 : inI v 0 1000 = 0
        · simp only [d2, ↓reduceIte]
        · simp only [d2, ↓reduceIte, hT]
    · subst q
      simp only [show ¬ (2 : Int32) = 4 by decide, show ¬ (2 : Int32) = 5 by decide, show ¬ (2 : Int32) = 1 by decide, ↓reduceIte]
      by_cases d1 : w (37 + 8 * k.toNatClampNeg) = -1
      · simp only [d1, ↓reduceIte]
      · simp only [d1, ↓reduceIte, one_0]
        by_cases d2 : inI v 0 1 = 0
        · simp only [d2, ↓reduceIte]
        · simp only [d2, ↓reduceIte, hT]
    · subst q
      simp only [show ¬ (3 : Int32) = 4 by decide, show ¬ (3 : Int32) = 5 by decide, show ¬ (3 : Int32) = 2 by decide, show ¬ (3 : Int32) = 1 by decide, ↓reduceIte]
      by_cases d1 : w (37 + 8 * k.toNatClampNeg) = -1
      · simp only [d1, ↓reduceIte]
      · simp only [d1, ↓reduceIte, one_0]
        by_cases d2 : inI v 0 1000 = 0
        · simp only [d2, ↓reduceIte]
        · simp only [d2, ↓reduceIte, hT]
    · subst q
      simp only [show ¬ (4 : Int32) = 3 by decide, show ¬ (4 : Int32) = 2 by decide, show ¬ (4 : Int32) = 1 by decide, ↓reduceIte, ite_self]
      by_cases d2 : inI v 0 1799 = 0
      · simp only [d2, ↓reduceIte]
      · rw [if_neg d2, if_neg hT, inI_1 (fun z => d2 (inI_0.mpr (Or.inl z))) (fun z => d2 (inI_0.mpr (Or.inr z)))]
    · subst q
      simp only [show ¬ (5 : Int32) = 3 by decide, show ¬ (5 : Int32) = 2 by decide, show ¬ (5 : Int32) = 1 by decide, show ¬ (5 : Int32) = 4 by decide, ↓reduceIte, ite_self]
      by_cases d1 : v = -1
      · rw [if_pos d1, if_pos d1, if_neg hT]
      rw [if_neg d1, if_neg d1]
      by_cases d2 : inI v 0 1799 = 0
      · rw [if_pos d2, if_pos d2, if_pos rfl]
      rw [if_neg d2, if_neg d2]
      by_cases d3 : v ≤ w (35 + 8 * k.toNatClampNeg)
      · rw [if_pos d3, if_pos d3, if_pos rfl]
      · rw [if_neg d3, if_neg d3, if_neg hT]
  · rw [if_neg c0]
    have hp := inI_of c0
    have x10 : (10 : Int32).toInt = 10 := rfl
    have x14 : (14 : Int32).toInt = 14 := rfl
    unfold plc
    rw [if_neg c0]
    have q : p = 10 ∨ p = 11 ∨ p = 12 ∨ p = 13 ∨ p = 14 := by
      simp only [i32_eq]
      have : (11 : Int32).toInt = 11 := rfl
      have : (12 : Int32).toInt = 12 := rfl
      have : (13 : Int32).toInt = 13 := rfl
      omega
    have fin : ∀ (s : Nat) (m : Int32), s < 13 → slL s = 0 → slM s = m → 8 + p - 10 = nI s → mostT (p - 10) = m → ¬ 6 + p - 10 = -1 → ((fnX9_isWithin f (8 + p - 10) v).bind fun x11 => pz_b x11) = some (if (if inI v 0 (mostT (p - 10)) = 0 then -1 else 6 + p - 10) = -1 then 0 else 1) := by
      intro s m hs13 e1 e2 e3 e4 e5
      rw [c_isWithin hs e3 hs13, bs, pb_in, e1, e2, e4]
      by_cases d : inI v 0 m = 0
      · rw [if_pos d, if_pos rfl, d]
      · rw [if_neg d, if_neg e5, inI_1 (fun z => d (inI_0.mpr (Or.inl z))) (fun z => d (inI_0.mpr (Or.inr z)))]
    rcases q with q | q | q | q | q
    · exact fin 8 400 (by decide) rfl rfl (by rw [q]; rfl) (by rw [q]; rfl) (by rw [q]; decide)
    · exact fin 9 1200 (by decide) rfl rfl (by rw [q]; rfl) (by rw [q]; rfl) (by rw [q]; decide)
    · exact fin 10 10 (by decide) rfl rfl (by rw [q]; rfl) (by rw [q]; rfl) (by rw [q]; decide)
    · exact fin 11 30 (by decide) rfl rfl (by rw [q]; rfl) (by rw [q]; rfl) (by rw [q]; decide)
    · exact fin 12 200 (by decide) rfl rfl (by rw [q]; rfl) (by rw [q]; rfl) (by rw [q]; decide)
end CU
