/-! ===== the class's plan: a change of a spouse's number; change ===== -/
theorem PlnR_spo {w pi tm : Nat → Int32} {sr : Nat → Nat} {so qo tl : Nat → Nat → Int32} (hr : PlnR w pi tm sr so qo tl) (hv : Vld w) {q o : Nat} {v : Int32} (hq : q < cP w) (ho : 1 ≤ o) (ho2 : o ≤ 5) : PlnR (upd w (37 + 8 * q + o) v) pi tm sr so (va_up qo q (va_up (qo q) (o + 2) v)) tl := by
  have hk4 := hv.p4 hq
  have hl : Lk w (upd w (37 + 8 * q + o) v) := Lk.upd (by omega) (by omega)
  have n : ∀ j, j ≠ 37 + 8 * q + o → upd w (37 + 8 * q + o) v j = w j := fun j hj => upd_n hj
  have eP : cP (upd w (37 + 8 * q + o) v) = cP w := by unfold cP; rw [n 4 (by omega)]
  refine ⟨hr.1.lk hv.c hl, ?_, hr.2.2.1.lk hl, hr.2.2.2⟩
  intro k hk
  rw [eP] at hk
  have hwed := wed_lk hv.c hl (k := k) (n _ (by omega)) (n _ (by omega))
  obtain ⟨q0, q1, q2, q3, q4, q5, q6, q7, q8⟩ := hr.2.1 k hk
  by_cases e : k = q
  · subst e
    have fld : ∀ i j, i = o + 2 → j = 37 + 8 * k + o → va_up qo k (va_up (qo k) (o + 2) v) k i = upd w (37 + 8 * k + o) v j := by
      intro i j hi hj; subst hi hj; rw [up_s, up_s, upd_s]
    have oth : ∀ i j, i ≠ o + 2 → j ≠ 37 + 8 * k + o → qo k i = w j → va_up qo k (va_up (qo k) (o + 2) v) k i = upd w (37 + 8 * k + o) v j := by
      intro i j hi hj hh; rw [up_s, up_n hi, n j hj]; exact hh
    refine ⟨oth _ _ (by omega) (by omega) q0, oth _ _ (by omega) (by omega) q1, oth _ _ (by omega) (by omega) q2, ?_, ?_, ?_, ?_, ?_, ?_⟩
    · by_cases z : o = 1
      · exact fld _ _ (by omega) (by omega)
      · exact oth _ _ (by omega) (by omega) q3
    · by_cases z : o = 2
      · exact fld _ _ (by omega) (by omega)
      · exact oth _ _ (by omega) (by omega) q4
    · by_cases z : o = 3
      · exact fld _ _ (by omega) (by omega)
      · exact oth _ _ (by omega) (by omega) q5
    · by_cases z : o = 4
      · exact fld _ _ (by omega) (by omega)
      · exact oth _ _ (by omega) (by omega) q6
    · by_cases z : o = 5
      · exact fld _ _ (by omega) (by omega)
      · exact oth _ _ (by omega) (by omega) q7
    · rw [hwed, up_s, up_n (by omega)]; exact q8
  · rw [up_n e]
    refine ⟨by rw [n _ (by omega)]; exact q0, by rw [n _ (by omega)]; exact q1, by rw [n _ (by omega)]; exact q2, by rw [n _ (by omega)]; exact q3, by rw [n _ (by omega)]; exact q4, by rw [n _ (by omega)]; exact q5, by rw [n _ (by omega)]; exact q6, by rw [n _ (by omega)]; exact q7, by rw [hwed]; exact q8⟩
