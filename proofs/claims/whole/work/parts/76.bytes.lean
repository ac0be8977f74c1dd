/-! ===== the class's reader takes bytes in ===== -/
def bI (v s : Int32) : Int32 := ((v.toUInt32 >>> (s.toUInt32 &&& Int32.toUInt32 31)).toInt32).toInt8.toInt32
theorem m255a : ∀ i, i < 32 → 8 ≤ i → (255#32).getLsbD i = false := by decide
theorem m255b : ∀ i, i < 8 → (255#8).getLsbD i = true := by decide
theorem m255 {i : Nat} (hi : i < 32) (h : 8 ≤ i) : (255#32)[i] = false := m255a i hi h
theorem lo8 (y : Int32) : y.toInt8.toInt32 &&& 255 = y &&& 255 := by
  apply Int32.toBitVec_inj.mp
  ext i hi
  simp
  by_cases c : i < 8
  · simp [BitVec.getElem_signExtend, c, hi]
  · rw [m255 hi (by omega), Bool.and_false, Bool.and_false]
theorem lo8b (y : Int32) : (y &&& 255).toInt8 = y.toInt8 := by
  apply Int8.toBitVec_inj.mp
  ext i hi
  simp
  intro _
  exact m255b i hi
theorem sh24 (v : Int32) : (v.toUInt32 >>> ((24 : Int32).toUInt32 &&& Int32.toUInt32 31)).toInt32 &&& 255 = (v >>> ((24 : Int32) &&& 31)) &&& 255 := by
  apply Int32.toBitVec_inj.mp
  ext i hi
  simp
  by_cases c : i < 8
  · rw [BitVec.getElem_sshiftRight, dif_pos (by omega), BitVec.getLsbD_eq_getElem (by omega)]
  · rw [m255 hi (by omega), Bool.and_false, Bool.and_false]
theorem sh16 (v : Int32) : (v.toUInt32 >>> ((16 : Int32).toUInt32 &&& Int32.toUInt32 31)).toInt32 &&& 255 = (v >>> ((16 : Int32) &&& 31)) &&& 255 := by
  apply Int32.toBitVec_inj.mp
  ext i hi
  simp
  by_cases c : i < 8
  · rw [BitVec.getElem_sshiftRight, dif_pos (by omega), BitVec.getLsbD_eq_getElem (by omega)]
  · rw [m255 hi (by omega), Bool.and_false, Bool.and_false]
theorem sh8 (v : Int32) : (v.toUInt32 >>> ((8 : Int32).toUInt32 &&& Int32.toUInt32 31)).toInt32 &&& 255 = (v >>> ((8 : Int32) &&& 31)) &&& 255 := by
  apply Int32.toBitVec_inj.mp
  ext i hi
  simp
  by_cases c : i < 8
  · rw [BitVec.getElem_sshiftRight, dif_pos (by omega), BitVec.getLsbD_eq_getElem (by omega)]
  · rw [m255 hi (by omega), Bool.and_false, Bool.and_false]
theorem sh0 (v : Int32) : (v.toUInt32 >>> ((0 : Int32).toUInt32 &&& Int32.toUInt32 31)).toInt32 &&& 255 = (v >>> ((0 : Int32) &&& 31)) &&& 255 := by
  apply Int32.toBitVec_inj.mp
  ext i hi
  simp
def bRt (b t : Int32) : Prop := b &&& 255 = t ∧ (b = 32 ↔ t = 32) ∧ (b = 10 ↔ t = 10) ∧ (b = 59 ↔ t = 59)
theorem bR_of {y t : Int32} (h : y &&& 255 = t) : bRt y.toInt8.toInt32 t := by
  have e : ∀ c : Int32, c &&& 255 = c → c.toInt8.toInt32 = c → (y.toInt8.toInt32 = c ↔ t = c) := by
    intro c h1 h2
    constructor
    · intro q; rw [← h, ← lo8, q, h1]
    · intro q; rw [← lo8b, h, q, h2]
  exact ⟨by rw [lo8, h], e 32 (by decide) (by decide), e 10 (by decide) (by decide), e 59 (by decide) (by decide)⟩
section BY
variable {eo : Nat} {rv bt vs tp : Nat → Int32} {f : pz_H}
theorem TpR.add {n : Nat} {b t : Int32} (h : TpR bt tp n) (hb : bRt b t) : TpR (upd bt n b) (upd tp n t) (n + 1) := by
  intro j hj
  by_cases e : j = n
  · subst e; rw [upd_s, upd_s]; exact hb
  · rw [upd_n e, upd_n e]; exact h j (by omega)
theorem c_app1 {n N : Nat} {v s s' : Int32} (h1 : rv 1 = nI n) (hn : n < 400) (hs : ¬ s < 0) (hs' : s + (-8) = s') : fX4_append_3 (N + 1) (EB eo rv bt vs f) eo v s = fX4_append_3 N (EB eo (va_up rv 1 (nI (n + 1))) (upd bt n (bI v s)) vs f) eo v s' := by
  show fX4_append_3b _ _ _ _ _ = _
  unfold fX4_append_3b fX4_append_40
  rw [if_neg hs, e_g1, bs, h1, if_neg (by rw [show (400 : Int32) = nI 400 from rfl, nI_leI (by decide) (by omega)]; omega), e_r0, bs, bs, e_wb rfl hn, bs, e_g1, bs, h1, nI_1, e_w1, bs, hs']
  rfl
theorem c_append {n : Nat} {v : Int32} (h1 : rv 1 = nI n) (hn : n + 4 ≤ 400) (ht : TpR bt tp n) : ∃ bt', fnX4_append (EB eo rv bt vs f) eo v = some (EB eo (va_up rv 1 (nI (n + 4))) bt' vs f) ∧ TpR bt' (fdT tp n v) (n + 4) := by
  unfold fnX4_append
  rw [e_is, bs]
  show ∃ bt', fX4_append_3 (3995 + 1 + 1 + 1 + 1 + 1) _ _ _ _ = _ ∧ _
  rw [c_app1 (s' := 16) h1 (by omega) (by decide) (by decide), c_app1 (s' := 8) up_s (by omega) (by decide) (by decide), c_app1 (s' := 0) up_s (by omega) (by decide) (by decide), c_app1 (s' := -8) up_s (by omega) (by decide) (by decide), up_up, up_up, up_up]
  refine ⟨_, ?_, (((ht.add (bR_of (sh24 v))).add (bR_of (sh16 v))).add (bR_of (sh8 v))).add (bR_of (sh0 v))⟩
  show fX4_append_3b _ _ _ _ _ = _
  unfold fX4_append_3b
  rw [if_pos (by decide)]
  rfl
end BY
