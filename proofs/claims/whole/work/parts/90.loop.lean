/-! ===== the law's loop ===== -/
theorem i32_and31 (x : Int32) : 0 ≤ (x &&& 31).toInt ∧ (x &&& 31).toInt < 32 := by
  have h : (x &&& 31).toBitVec.toNat < 32 := by
    rw [Int32.toBitVec_and, BitVec.toNat_and]
    exact Nat.lt_of_le_of_lt Nat.and_le_right (by decide)
  have h2 : (x &&& 31).toInt = ((x &&& 31).toBitVec.toNat : Int) := by
    rw [← Int32.toInt_toBitVec, BitVec.toInt_eq_toNat_of_lt (by omega)]
  omega
theorem lg_cmp_self (x : Int64) : lg_cmp x x = 0 := by
  unfold lg_cmp; simp
section LWL
variable {G : pz_G} {C : pz_C} {cc : ByteArray} {nL : Nat} {own : String} {pc pc' : Nat} {lv lv' : List (Nat × Value)} {st : List Value} {f : pz_H} {n k : Nat} {Q : State → Prop}
theorem pz_icmp_eqT {x y : Int32} {tgt : Nat} {off : Int} (hC : pz_OK G C cc nL own) (d : pz_j cc pc pc' tgt (.if_icmp .eq off) off) (h : x = y) (kk : pz_W G C nL tgt lv st f n k Q) : pz_W G C nL pc lv (.int y :: .int x :: st) f n k Q := by
  intro H locs ls hD hF hl
  exact lv_icmp_eq hC.1 hC.2.1 d.1 d.2.2 (fun _ => kk H locs ls hD hF hl) (fun c => absurd h c)
theorem pz_if_eqT {x : Int32} {tgt : Nat} {off : Int} (hC : pz_OK G C cc nL own) (d : pz_j cc pc pc' tgt (.ifCond .eq off) off) (h : x = 0) (kk : pz_W G C nL tgt lv st f n k Q) : pz_W G C nL pc lv (.int x :: st) f n k Q := by
  intro H locs ls hD hF hl
  exact lv_if_eq hC.1 hC.2.1 d.1 d.2.2 (fun _ => kk H locs ls hD hF hl) (fun c => absurd h c)
theorem pz_sld {b L : Nat} {xs : Nat → Int32} {i : Int32} (hC : pz_OK G C cc nL own) (d : pz_d cc pc 1 pc' .iaload) (hX : va_X b L xs (pz_s C) G.2.2.1) (hbl : b < pz_z G) {j : Nat} (hi : i = nI j) (hj : j < L) (hL : L ≤ 3072) (kk : pz_W G C nL pc' lv (.int (xs j) :: st) f n k Q) : pz_W G C nL pc lv (.int i :: .ref b :: st) f n k Q := by
  intro H locs ls hD hF hl
  obtain ⟨d1, rfl⟩ := d
  obtain ⟨scr, h1, h2, h3, h4, h5⟩ := hX
  have ht : i.toNatClampNeg = j := nI_t hi (by omega)
  have hin : ¬ (i < 0 ∨ scr.slots.size ≤ i.toNatClampNeg) := by
    rw [h4, ht, hi]
    intro h
    rcases h with h | h
    · rw [i32_lt, z32, nI_toInt (by omega)] at h; omega
    · omega
  exact W.iald (v := .int (xs j)) hC.1 hC.2.1 (by rw [hD.2.2.2.2.2 b hbl]; exact h1) h2 h3 hin (by rw [ht]; exact h5 _ hj) rfl rfl d1 (kk H locs ls hD hF hl)
theorem pz_slen {b L : Nat} {xs : Nat → Int32} (hC : pz_OK G C cc nL own) (d : pz_d cc pc 1 pc' .arraylength) (hX : va_X b L xs (pz_s C) G.2.2.1) (hbl : b < pz_z G) (kk : pz_W G C nL pc' lv (.int (nI L) :: st) f n k Q) : pz_W G C nL pc lv (.ref b :: st) f n k Q := by
  intro H locs ls hD hF hl
  obtain ⟨d1, rfl⟩ := d
  obtain ⟨scr, h1, h2, h3, h4, h5⟩ := hX
  exact W.alen (n := nI L) hC.1 hC.2.1 (by rw [hD.2.2.2.2.2 b hbl]; exact h1) h2 (by rw [h4] <;> rfl) rfl rfl d1 (kk H locs ls hD hF hl)
/-- what stands fast in the law's walk -/
def LwOK (G : pz_G) (C : pz_C) (b L : Nat) (xs : Nat → Int32) : Prop := pz_OK G C cL_law 7 RL ∧ pz_K C ret 14 572 601024 7293034 ∧ va_X b L xs (pz_s C) G.2.2.1 ∧ b < pz_z G ∧ L ≤ 3072 ∧ C.2.1.stackTraces = false ∧ ∀ U, G.2.2.2.2.2 U → xT G.2.2.1 U
def lwv (b xo t : Nat) : List (Nat × Value) := [(4, .int (nI (6 * t))), (3, .ref (xo + 292)), (2, .ref (xo + 280)), (1, .ref xo), (0, .ref b)]
theorem lw_arg {b L t : Nat} {xs : Nat → Int32} {p1 p2 p3 p4 p5 : Nat} {j : Int} (W0 : LwOK G C b L xs) (ht : 6 * t + 6 ≤ L) (q0 q4 : Nat) (h0 : lv[q0]? = some (0, .ref b)) (h4 : lv[q4]? = some (4, .int (nI (6 * t)))) (d0 : pz_d cL_law pc 1 p1 (.aload_n 0)) (d1 : pz_d cL_law p1 2 p2 (.iload 4)) (d2 : pz_d cL_law p2 1 p3 (.iconst j)) (d3 : pz_d cL_law p3 1 p4 .iadd) (d4 : pz_d cL_law p4 1 p5 .iaload) (jn : Nat) (hj : Int32.ofInt j = nI jn) (hjn : jn < 6)
    (kk : pz_W G C 7 p5 lv (.int (xs (6 * t + jn)) :: st) f n k Q) : pz_W G C 7 pc lv st f n k Q := by
  obtain ⟨hC, hK, hX, hbl, hL, -⟩ := W0
  refine pz_aload_n hC d0 q0 h0 ?_
  refine pz_iload hC d1 q4 h4 ?_
  refine pz_iconst (v := nI jn) hC d2 hj ?_
  refine pz_iadd hC d3 ?_
  exact pz_sld hC d4 hX hbl (j := 6 * t + jn) (nI_add _ _) (by omega) hL kk
/-- a truth value out of an int -/
theorem lw_bool {p1 p2 p3 p4 : Nat} {x : Int32} {o1 o2 : Int} (hC : pz_OK G C cL_law 7 RL) (d0 : pz_j cL_law pc p1 p3 (.ifCond .eq o1) o1) (d1 : pz_d cL_law p1 1 p2 (.iconst 1)) (d2 : pz_j cL_law p2 p3 p4 (.goto o2) o2) (d3 : pz_d cL_law p3 1 p4 (.iconst 0)) (kk : pz_W G C 7 p4 lv (.int (if x = 0 then 0 else 1) :: st) f n k Q) : pz_W G C 7 pc lv (.int x :: st) f n k Q := by
  by_cases c : x = 0
  · rw [if_pos c] at kk
    exact pz_if_eqT hC d0 c (pz_iconst (v := (0 : Int32)) hC d3 (by decide) kk)
  · rw [if_neg c] at kk
    refine pz_if_eq (α := Unit) (A := none) (B := some ()) (r := ()) hC d0 (by rw [if_neg c]) (fun h => absurd h c) (fun _ _ => ?_)
    exact pz_iconst (v := (1 : Int32)) hC d1 (by decide) (pz_goto hC d2 kk)
theorem pz_icmp_gtT {x y : Int32} {tgt : Nat} {off : Int} (hC : pz_OK G C cc nL own) (d : pz_j cc pc pc' tgt (.if_icmp .gt off) off) (h : y < x) (kk : pz_W G C nL tgt lv st f n k Q) : pz_W G C nL pc lv (.int y :: .int x :: st) f n k Q := by
  intro H locs ls hD hF hl
  exact lv_icmp_gt hC.1 hC.2.1 d.1 d.2.2 (fun _ => kk H locs ls hD hF hl) (fun c => absurd h c)
theorem pz_icmp_gtF {x y : Int32} {tgt : Nat} {off : Int} (hC : pz_OK G C cc nL own) (d : pz_j cc pc pc' tgt (.if_icmp .gt off) off) (h : ¬ y < x) (kk : pz_W G C nL pc' lv st f n k Q) : pz_W G C nL pc lv (.int y :: .int x :: st) f n k Q := by
  intro H locs ls hD hF hl
  obtain ⟨d1, rfl, ht⟩ := d
  exact lv_icmp_gt hC.1 hC.2.1 d1 ht (fun c => absurd c h) (fun _ => kk H locs ls hD hF hl)
theorem pz_callW {y : MethodName} {cy : ByteArray} {mL idx np fr lo mc ms ci b fr0 lo0 mc0 ms0 : Nat} {rt rt0 : Option FieldType} {As stk : List Value} {v : Option Value} {f' : pz_H} (hC : pz_OK G C cc nL own) (hK : pz_K C rt0 fr0 lo0 mc0 ms0) (d : pz_d cc pc 3 pc' (.invokevirtual idx)) (hy : pz_y y cy mL rt np) (hyv : pz_yv y ci) (hlk : pz_lk own idx y) (hM : pz_Met C.2.1 G y cy mL rt fr lo mc ms (.ref b :: As) f v f' ∧ pz_is f b ci = some ()) (hn : As.length = np) (hst : stk = As.reverse ++ .ref b :: st) (hW : (st.map fun v => v.category).sum ≤ 8) (hR : fr + 1 ≤ fr0 ∧ 8 + (mL + 11) + lo ≤ lo0) (hr : n + mc ≤ mc0 ∧ k + ms ≤ ms0) (kk : pz_W G C nL pc' lv (v.toList ++ st) f' (n + mc) (k + ms) Q) : pz_W G C nL pc lv stk f n k Q := pz_callV hC hK d hy hyv hlk hM.1 hM.2 hn hst hW hR hr kk
variable {b L t z xo : Nat} {xs : Nat → Int32}

theorem lw_c0 (W0 : LwOK G C b L xs) (ht : 6 * t + 6 ≤ L) (hn : n + 1 ≤ 601024) (hk : k + 6 ≤ 7293034) (hf : LI z xo f) (K : ∀ f2, LI z xo f2 → pz_W G C 7 1020 (lwv b xo t) [] f2 (n + 1) (k + 6) Q) : pz_W G C 7 156 (lwv b xo t) [] f n k Q := by
  obtain ⟨hC, hK, hX, hbl, hL, hlt, hXT⟩ := id W0
  obtain ⟨r, f1, f2, e1, e2, h2⟩ := s_feed hf (xs (6 * t + 1)) (xs (6 * t + 2)) (xs (6 * t + 3)) (xs (6 * t + 4)) (xs (6 * t + 5))
  refine pz_widen (n' := n + 1) (k' := k + 6) (by omega) (by omega) ?_
  refine pz_aload_n hC dL_law_156 3 rfl ?_
  refine lw_arg W0 ht 4 0 rfl rfl dL_law_157 dL_law_158 dL_law_160 dL_law_161 dL_law_162 1 (by decide) (by decide) ?_
  refine lw_arg W0 ht 4 0 rfl rfl dL_law_163 dL_law_164 dL_law_166 dL_law_167 dL_law_168 2 (by decide) (by decide) ?_
  refine lw_arg W0 ht 4 0 rfl rfl dL_law_169 dL_law_170 dL_law_172 dL_law_173 dL_law_174 3 (by decide) (by decide) ?_
  refine lw_arg W0 ht 4 0 rfl rfl dL_law_175 dL_law_176 dL_law_178 dL_law_179 dL_law_180 4 (by decide) (by decide) ?_
  refine lw_arg W0 ht 4 0 rfl rfl dL_law_181 dL_law_182 dL_law_184 dL_law_185 dL_law_186 5 (by decide) (by decide) ?_
  refine pz_callW (As := [.int (xs (6 * t + 1)), .int (xs (6 * t + 2)), .int (xs (6 * t + 3)), .int (xs (6 * t + 4)), .int (xs (6 * t + 5))]) hC hK dL_law_187 py_X9_feed pv_X9_feed lk_L_22 (mX9_feed e1) rfl rfl (Nat.le_of_ble_eq_true rfl) ⟨by decide, by decide⟩ ⟨by omega, by omega⟩ ?_
  refine pz_aload_n hC dL_law_190 2 rfl ?_
  refine lw_arg W0 ht 4 0 rfl rfl dL_law_191 dL_law_192 dL_law_194 dL_law_195 dL_law_196 1 (by decide) (by decide) ?_
  refine lw_arg W0 ht 4 0 rfl rfl dL_law_197 dL_law_198 dL_law_200 dL_law_201 dL_law_202 2 (by decide) (by decide) ?_
  refine lw_arg W0 ht 4 0 rfl rfl dL_law_203 dL_law_204 dL_law_206 dL_law_207 dL_law_208 3 (by decide) (by decide) ?_
  refine lw_arg W0 ht 4 0 rfl rfl dL_law_209 dL_law_210 dL_law_212 dL_law_213 dL_law_214 4 (by decide) (by decide) ?_
  refine lw_arg W0 ht 4 0 rfl rfl dL_law_215 dL_law_216 dL_law_218 dL_law_219 dL_law_220 5 (by decide) (by decide) ?_
  refine pz_callW (As := [.int (xs (6 * t + 1)), .int (xs (6 * t + 2)), .int (xs (6 * t + 3)), .int (xs (6 * t + 4)), .int (xs (6 * t + 5))]) hC hK dL_law_221 py_X10_feed pv_X10_feed lk_L_26 (mX10_feed e2) rfl rfl (Nat.le_of_ble_eq_true rfl) ⟨by decide, by decide⟩ ⟨by omega, by omega⟩ ?_
  exact pz_icmp_eqT hC dL_law_224 rfl (K f2 h2)
theorem lw_c1 (W0 : LwOK G C b L xs) (ht : 6 * t + 6 ≤ L) (hn : n + 1 ≤ 601024) (hk : k + 6 ≤ 7293034) (hf : LI z xo f) (K : ∀ f2, LI z xo f2 → pz_W G C 7 1020 (lwv b xo t) [] f2 (n + 1) (k + 6) Q) : pz_W G C 7 229 (lwv b xo t) [] f n k Q := by
  obtain ⟨hC, hK, hX, hbl, hL, hlt, hXT⟩ := id W0
  obtain ⟨r, f1, f2, e1, e2, h2⟩ := s_end hf (xs (6 * t + 1))
  refine pz_widen (n' := n + 1) (k' := k + 6) (by omega) (by omega) ?_
  refine pz_aload_n hC dL_law_229 3 rfl ?_
  refine lw_arg W0 ht 4 0 rfl rfl dL_law_230 dL_law_231 dL_law_233 dL_law_234 dL_law_235 1 (by decide) (by decide) ?_
  refine pz_callW (As := [.int (xs (6 * t + 1))]) hC hK dL_law_236 py_X9_end pv_X9_end lk_L_27 (mX9_end e1) rfl rfl (Nat.le_of_ble_eq_true rfl) ⟨by decide, by decide⟩ ⟨by omega, by omega⟩ ?_
  refine pz_aload_n hC dL_law_239 2 rfl ?_
  refine lw_arg W0 ht 4 0 rfl rfl dL_law_240 dL_law_241 dL_law_243 dL_law_244 dL_law_245 1 (by decide) (by decide) ?_
  refine pz_callW (As := [.int (xs (6 * t + 1))]) hC hK dL_law_246 py_X10_end pv_X10_end lk_L_31 (mX10_end e2) rfl rfl (Nat.le_of_ble_eq_true rfl) ⟨by decide, by decide⟩ ⟨by omega, by omega⟩ ?_
  exact pz_icmp_eqT hC dL_law_249 rfl (K f2 h2)
theorem lw_c2 (W0 : LwOK G C b L xs) (ht : 6 * t + 6 ≤ L) (hn : n + 1 ≤ 601024) (hk : k + 6 ≤ 7293034) (hf : LI z xo f) (K : ∀ f2, LI z xo f2 → pz_W G C 7 1020 (lwv b xo t) [] f2 (n + 1) (k + 6) Q) : pz_W G C 7 254 (lwv b xo t) [] f n k Q := by
  obtain ⟨hC, hK, hX, hbl, hL, hlt, hXT⟩ := id W0
  obtain ⟨r, f1, f2, e1, e2, h2⟩ := s_tell hf
  refine pz_widen (n' := n + 1) (k' := k + 6) (by omega) (by omega) ?_
  refine pz_aload_n hC dL_law_254 3 rfl ?_
  refine pz_callW (As := []) hC hK dL_law_255 py_X9_tell pv_X9_tell lk_L_32 (mX9_tell e1) rfl rfl (Nat.le_of_ble_eq_true rfl) ⟨by decide, by decide⟩ ⟨by omega, by omega⟩ ?_
  refine pz_aload_n hC dL_law_258 2 rfl ?_
  refine pz_callW (As := []) hC hK dL_law_259 py_X10_tell pv_X10_tell lk_L_36 (mX10_tell e2) rfl rfl (Nat.le_of_ble_eq_true rfl) ⟨by decide, by decide⟩ ⟨by omega, by omega⟩ ?_
  exact pz_icmp_eqT hC dL_law_262 rfl (K f2 h2)
theorem lw_c3 (W0 : LwOK G C b L xs) (ht : 6 * t + 6 ≤ L) (hn : n + 1 ≤ 601024) (hk : k + 6 ≤ 7293034) (hf : LI z xo f) (K : ∀ f2, LI z xo f2 → pz_W G C 7 1020 (lwv b xo t) [] f2 (n + 1) (k + 6) Q) : pz_W G C 7 267 (lwv b xo t) [] f n k Q := by
  obtain ⟨hC, hK, hX, hbl, hL, hlt, hXT⟩ := id W0
  obtain ⟨r, f2, e1, e2, h2⟩ := s_fault hf
  refine pz_widen (n' := n + 1) (k' := k + 6) (by omega) (by omega) ?_
  refine pz_aload_n hC dL_law_267 3 rfl ?_
  refine pz_callW (As := []) hC hK dL_law_268 py_X9_fault pv_X9_fault lk_L_37 (mX9_fault e1) rfl rfl (Nat.le_of_ble_eq_true rfl) ⟨by decide, by decide⟩ ⟨by omega, by omega⟩ ?_
  refine pz_aload_n hC dL_law_271 2 rfl ?_
  refine pz_callW (As := []) hC hK dL_law_272 py_X10_fault pv_X10_fault lk_L_40 (mX10_fault e2) rfl rfl (Nat.le_of_ble_eq_true rfl) ⟨by decide, by decide⟩ ⟨by omega, by omega⟩ ?_
  exact pz_icmp_eqT hC dL_law_275 rfl (K f2 h2)
theorem lw_c4 (W0 : LwOK G C b L xs) (ht : 6 * t + 6 ≤ L) (hn : n + 1 ≤ 601024) (hk : k + 6 ≤ 7293034) (hf : LI z xo f) (K : ∀ f2, LI z xo f2 → pz_W G C 7 1020 (lwv b xo t) [] f2 (n + 1) (k + 6) Q) : pz_W G C 7 280 (lwv b xo t) [] f n k Q := by
  obtain ⟨hC, hK, hX, hbl, hL, hlt, hXT⟩ := id W0
  obtain ⟨r, f1, f2, e1, e2, h2⟩ := s_set hf (xs (6 * t + 1)) (xs (6 * t + 2)) (xs (6 * t + 3))
  refine pz_widen (n' := n + 1) (k' := k + 6) (by omega) (by omega) ?_
  refine pz_aload_n hC dL_law_280 3 rfl ?_
  refine lw_arg W0 ht 4 0 rfl rfl dL_law_281 dL_law_282 dL_law_284 dL_law_285 dL_law_286 1 (by decide) (by decide) ?_
  refine lw_arg W0 ht 4 0 rfl rfl dL_law_287 dL_law_288 dL_law_290 dL_law_291 dL_law_292 2 (by decide) (by decide) ?_
  refine lw_arg W0 ht 4 0 rfl rfl dL_law_293 dL_law_294 dL_law_296 dL_law_297 dL_law_298 3 (by decide) (by decide) ?_
  refine pz_callW (As := [.int (xs (6 * t + 1)), .int (xs (6 * t + 2)), .int (xs (6 * t + 3))]) hC hK dL_law_299 py_X9_set pv_X9_set lk_L_41 (mX9_set e1) rfl rfl (Nat.le_of_ble_eq_true rfl) ⟨by decide, by decide⟩ ⟨by omega, by omega⟩ ?_
  refine pz_aload_n hC dL_law_302 2 rfl ?_
  refine lw_arg W0 ht 4 0 rfl rfl dL_law_303 dL_law_304 dL_law_306 dL_law_307 dL_law_308 1 (by decide) (by decide) ?_
  refine lw_arg W0 ht 4 0 rfl rfl dL_law_309 dL_law_310 dL_law_312 dL_law_313 dL_law_314 2 (by decide) (by decide) ?_
  refine lw_arg W0 ht 4 0 rfl rfl dL_law_315 dL_law_316 dL_law_318 dL_law_319 dL_law_320 3 (by decide) (by decide) ?_
  refine pz_callW (As := [.int (xs (6 * t + 1)), .int (xs (6 * t + 2)), .int (xs (6 * t + 3))]) hC hK dL_law_321 py_X10_set pv_X10_set lk_L_45 (mX10_set e2) rfl rfl (Nat.le_of_ble_eq_true rfl) ⟨by decide, by decide⟩ ⟨by omega, by omega⟩ ?_
  exact pz_icmp_eqT hC dL_law_324 rfl (K f2 h2)
theorem lw_c5 (W0 : LwOK G C b L xs) (ht : 6 * t + 6 ≤ L) (hn : n + 1 ≤ 601024) (hk : k + 6 ≤ 7293034) (hf : LI z xo f) (K : ∀ f2, LI z xo f2 → pz_W G C 7 1020 (lwv b xo t) [] f2 (n + 1) (k + 6) Q) : pz_W G C 7 329 (lwv b xo t) [] f n k Q := by
  obtain ⟨hC, hK, hX, hbl, hL, hlt, hXT⟩ := id W0
  obtain ⟨r, f1, f2, e1, e2, h2⟩ := s_undo hf
  refine pz_widen (n' := n + 1) (k' := k + 6) (by omega) (by omega) ?_
  refine pz_aload_n hC dL_law_329 3 rfl ?_
  refine pz_callW (As := []) hC hK dL_law_330 py_X9_undo pv_X9_undo lk_L_46 (mX9_undo e1) rfl rfl (Nat.le_of_ble_eq_true rfl) ⟨by decide, by decide⟩ ⟨by omega, by omega⟩ ?_
  refine pz_aload_n hC dL_law_333 2 rfl ?_
  refine pz_callW (As := []) hC hK dL_law_334 py_X10_undo pv_X10_undo lk_L_49 (mX10_undo e2) rfl rfl (Nat.le_of_ble_eq_true rfl) ⟨by decide, by decide⟩ ⟨by omega, by omega⟩ ?_
  exact pz_icmp_eqT hC dL_law_337 rfl (K f2 h2)
theorem lw_c6 (W0 : LwOK G C b L xs) (ht : 6 * t + 6 ≤ L) (hn : n + 1 ≤ 601024) (hk : k + 6 ≤ 7293034) (hf : LI z xo f) (K : ∀ f2, LI z xo f2 → pz_W G C 7 1020 (lwv b xo t) [] f2 (n + 1) (k + 6) Q) : pz_W G C 7 342 (lwv b xo t) [] f n k Q := by
  obtain ⟨hC, hK, hX, hbl, hL, hlt, hXT⟩ := id W0
  obtain ⟨r, f2, e1, e2, h2⟩ := s_count hf (xs (6 * t + 1))
  refine pz_widen (n' := n + 1) (k' := k + 6) (by omega) (by omega) ?_
  refine pz_aload_n hC dL_law_342 3 rfl ?_
  refine lw_arg W0 ht 4 0 rfl rfl dL_law_343 dL_law_344 dL_law_346 dL_law_347 dL_law_348 1 (by decide) (by decide) ?_
  refine pz_callW (As := [.int (xs (6 * t + 1))]) hC hK dL_law_349 py_X9_count pv_X9_count lk_L_50 (mX9_count e1) rfl rfl (Nat.le_of_ble_eq_true rfl) ⟨by decide, by decide⟩ ⟨by omega, by omega⟩ ?_
  refine pz_aload_n hC dL_law_352 2 rfl ?_
  refine lw_arg W0 ht 4 0 rfl rfl dL_law_353 dL_law_354 dL_law_356 dL_law_357 dL_law_358 1 (by decide) (by decide) ?_
  refine pz_callW (As := [.int (xs (6 * t + 1))]) hC hK dL_law_359 py_X10_count pv_X10_count lk_L_54 (mX10_count e2) rfl rfl (Nat.le_of_ble_eq_true rfl) ⟨by decide, by decide⟩ ⟨by omega, by omega⟩ ?_
  exact pz_icmp_eqT hC dL_law_362 rfl (K f2 h2)
theorem lw_c9 (W0 : LwOK G C b L xs) (ht : 6 * t + 6 ≤ L) (hn : n + 1 ≤ 601024) (hk : k + 6 ≤ 7293034) (hf : LI z xo f) (K : ∀ f2, LI z xo f2 → pz_W G C 7 1020 (lwv b xo t) [] f2 (n + 1) (k + 6) Q) : pz_W G C 7 503 (lwv b xo t) [] f n k Q := by
  obtain ⟨hC, hK, hX, hbl, hL, hlt, hXT⟩ := id W0
  obtain ⟨r, f2, e1, e2, h2⟩ := s_service hf (xs (6 * t + 1)) (xs (6 * t + 2))
  refine pz_widen (n' := n + 1) (k' := k + 6) (by omega) (by omega) ?_
  refine pz_aload_n hC dL_law_503 3 rfl ?_
  refine lw_arg W0 ht 4 0 rfl rfl dL_law_504 dL_law_505 dL_law_507 dL_law_508 dL_law_509 1 (by decide) (by decide) ?_
  refine lw_arg W0 ht 4 0 rfl rfl dL_law_510 dL_law_511 dL_law_513 dL_law_514 dL_law_515 2 (by decide) (by decide) ?_
  refine pz_callW (As := [.int (xs (6 * t + 1)), .int (xs (6 * t + 2))]) hC hK dL_law_516 py_X9_service pv_X9_service lk_L_67 (mX9_service e1) rfl rfl (Nat.le_of_ble_eq_true rfl) ⟨by decide, by decide⟩ ⟨by omega, by omega⟩ ?_
  refine pz_aload_n hC dL_law_519 2 rfl ?_
  refine lw_arg W0 ht 4 0 rfl rfl dL_law_520 dL_law_521 dL_law_523 dL_law_524 dL_law_525 1 (by decide) (by decide) ?_
  refine lw_arg W0 ht 4 0 rfl rfl dL_law_526 dL_law_527 dL_law_529 dL_law_530 dL_law_531 2 (by decide) (by decide) ?_
  refine pz_callW (As := [.int (xs (6 * t + 1)), .int (xs (6 * t + 2))]) hC hK dL_law_532 py_X10_service pv_X10_service lk_L_70 (mX10_service e2) rfl rfl (Nat.le_of_ble_eq_true rfl) ⟨by decide, by decide⟩ ⟨by omega, by omega⟩ ?_
  exact pz_icmp_eqT hC dL_law_535 rfl (K f2 h2)
theorem lw_c10 (W0 : LwOK G C b L xs) (ht : 6 * t + 6 ≤ L) (hn : n + 1 ≤ 601024) (hk : k + 6 ≤ 7293034) (hf : LI z xo f) (K : ∀ f2, LI z xo f2 → pz_W G C 7 1020 (lwv b xo t) [] f2 (n + 1) (k + 6) Q) : pz_W G C 7 540 (lwv b xo t) [] f n k Q := by
  obtain ⟨hC, hK, hX, hbl, hL, hlt, hXT⟩ := id W0
  obtain ⟨r, f2, e1, e2, h2⟩ := s_benefit hf (xs (6 * t + 1))
  refine pz_widen (n' := n + 1) (k' := k + 6) (by omega) (by omega) ?_
  refine pz_aload_n hC dL_law_540 3 rfl ?_
  refine lw_arg W0 ht 4 0 rfl rfl dL_law_541 dL_law_542 dL_law_544 dL_law_545 dL_law_546 1 (by decide) (by decide) ?_
  refine pz_callW (As := [.int (xs (6 * t + 1))]) hC hK dL_law_547 py_X9_benefit pv_X9_benefit lk_L_71 (mX9_benefit e1) rfl rfl (Nat.le_of_ble_eq_true rfl) ⟨by decide, by decide⟩ ⟨by omega, by omega⟩ ?_
  refine pz_aload_n hC dL_law_550 2 rfl ?_
  refine lw_arg W0 ht 4 0 rfl rfl dL_law_551 dL_law_552 dL_law_554 dL_law_555 dL_law_556 1 (by decide) (by decide) ?_
  refine pz_callW (As := [.int (xs (6 * t + 1))]) hC hK dL_law_557 py_X10_benefit pv_X10_benefit lk_L_74 (mX10_benefit e2) rfl rfl (Nat.le_of_ble_eq_true rfl) ⟨by decide, by decide⟩ ⟨by omega, by omega⟩ ?_
  exact pz_icmp_eqT hC dL_law_560 rfl (K f2 h2)
theorem lw_c11 (W0 : LwOK G C b L xs) (ht : 6 * t + 6 ≤ L) (hn : n + 1 ≤ 601024) (hk : k + 6 ≤ 7293034) (hf : LI z xo f) (K : ∀ f2, LI z xo f2 → pz_W G C 7 1020 (lwv b xo t) [] f2 (n + 1) (k + 6) Q) : pz_W G C 7 565 (lwv b xo t) [] f n k Q := by
  obtain ⟨hC, hK, hX, hbl, hL, hlt, hXT⟩ := id W0
  obtain ⟨r, f1, f2, e1, e2, h2⟩ := s_whole hf (xs (6 * t + 1))
  refine pz_widen (n' := n + 1) (k' := k + 6) (by omega) (by omega) ?_
  refine pz_aload_n hC dL_law_565 3 rfl ?_
  refine lw_arg W0 ht 4 0 rfl rfl dL_law_566 dL_law_567 dL_law_569 dL_law_570 dL_law_571 1 (by decide) (by decide) ?_
  refine pz_callW (As := [.int (xs (6 * t + 1))]) hC hK dL_law_572 py_X9_whole pv_X9_whole lk_L_75 (mX9_whole e1) rfl rfl (Nat.le_of_ble_eq_true rfl) ⟨by decide, by decide⟩ ⟨by omega, by omega⟩ ?_
  refine pz_aload_n hC dL_law_575 2 rfl ?_
  refine lw_arg W0 ht 4 0 rfl rfl dL_law_576 dL_law_577 dL_law_579 dL_law_580 dL_law_581 1 (by decide) (by decide) ?_
  refine pz_callW (As := [.int (xs (6 * t + 1))]) hC hK dL_law_582 py_X10_whole pv_X10_whole lk_L_78 (mX10_whole e2) rfl rfl (Nat.le_of_ble_eq_true rfl) ⟨by decide, by decide⟩ ⟨by omega, by omega⟩ ?_
  exact pz_icmp_eqT hC dL_law_585 rfl (K f2 h2)
theorem lw_c12 (W0 : LwOK G C b L xs) (ht : 6 * t + 6 ≤ L) (hn : n + 1 ≤ 601024) (hk : k + 6 ≤ 7293034) (hf : LI z xo f) (K : ∀ f2, LI z xo f2 → pz_W G C 7 1020 (lwv b xo t) [] f2 (n + 1) (k + 6) Q) : pz_W G C 7 590 (lwv b xo t) [] f n k Q := by
  obtain ⟨hC, hK, hX, hbl, hL, hlt, hXT⟩ := id W0
  obtain ⟨r, f2, e1, e2, h2⟩ := s_share hf (xs (6 * t + 1)) (if xs (6 * t + 2) = 0 then 0 else 1)
  refine pz_widen (n' := n + 1) (k' := k + 6) (by omega) (by omega) ?_
  refine pz_aload_n hC dL_law_590 3 rfl ?_
  refine lw_arg W0 ht 4 0 rfl rfl dL_law_591 dL_law_592 dL_law_594 dL_law_595 dL_law_596 1 (by decide) (by decide) ?_
  refine lw_arg W0 ht 4 0 rfl rfl dL_law_597 dL_law_598 dL_law_600 dL_law_601 dL_law_602 2 (by decide) (by decide) ?_
  refine lw_bool hC dL_law_603 dL_law_606 dL_law_607 dL_law_610 ?_
  refine pz_callW (As := [.int (xs (6 * t + 1)), .int (if xs (6 * t + 2) = 0 then 0 else 1)]) hC hK dL_law_611 py_X9_share pv_X9_share lk_L_79 (mX9_share e1) rfl rfl (Nat.le_of_ble_eq_true rfl) ⟨by decide, by decide⟩ ⟨by omega, by omega⟩ ?_
  refine pz_aload_n hC dL_law_614 2 rfl ?_
  refine lw_arg W0 ht 4 0 rfl rfl dL_law_615 dL_law_616 dL_law_618 dL_law_619 dL_law_620 1 (by decide) (by decide) ?_
  refine lw_arg W0 ht 4 0 rfl rfl dL_law_621 dL_law_622 dL_law_624 dL_law_625 dL_law_626 2 (by decide) (by decide) ?_
  refine lw_bool hC dL_law_627 dL_law_630 dL_law_631 dL_law_634 ?_
  refine pz_callW (As := [.int (xs (6 * t + 1)), .int (if xs (6 * t + 2) = 0 then 0 else 1)]) hC hK dL_law_635 py_X10_share pv_X10_share lk_L_83 (mX10_share e2) rfl rfl (Nat.le_of_ble_eq_true rfl) ⟨by decide, by decide⟩ ⟨by omega, by omega⟩ ?_
  exact pz_icmp_eqT hC dL_law_638 rfl (K f2 h2)
theorem lw_c13 (W0 : LwOK G C b L xs) (ht : 6 * t + 6 ≤ L) (hn : n + 1 ≤ 601024) (hk : k + 6 ≤ 7293034) (hf : LI z xo f) (K : ∀ f2, LI z xo f2 → pz_W G C 7 1020 (lwv b xo t) [] f2 (n + 1) (k + 6) Q) : pz_W G C 7 643 (lwv b xo t) [] f n k Q := by
  obtain ⟨hC, hK, hX, hbl, hL, hlt, hXT⟩ := id W0
  obtain ⟨r, f1, f2, e1, e2, h2⟩ := s_paid hf (xs (6 * t + 1)) (xs (6 * t + 2))
  refine pz_widen (n' := n + 1) (k' := k + 6) (by omega) (by omega) ?_
  refine pz_aload_n hC dL_law_643 3 rfl ?_
  refine lw_arg W0 ht 4 0 rfl rfl dL_law_644 dL_law_645 dL_law_647 dL_law_648 dL_law_649 1 (by decide) (by decide) ?_
  refine lw_arg W0 ht 4 0 rfl rfl dL_law_650 dL_law_651 dL_law_653 dL_law_654 dL_law_655 2 (by decide) (by decide) ?_
  refine pz_callW (As := [.int (xs (6 * t + 1)), .int (xs (6 * t + 2))]) hC hK dL_law_656 py_X9_paid pv_X9_paid lk_L_84 (mX9_paid e1) rfl rfl (Nat.le_of_ble_eq_true rfl) ⟨by decide, by decide⟩ ⟨by omega, by omega⟩ ?_
  refine pz_aload_n hC dL_law_659 2 rfl ?_
  refine lw_arg W0 ht 4 0 rfl rfl dL_law_660 dL_law_661 dL_law_663 dL_law_664 dL_law_665 1 (by decide) (by decide) ?_
  refine lw_arg W0 ht 4 0 rfl rfl dL_law_666 dL_law_667 dL_law_669 dL_law_670 dL_law_671 2 (by decide) (by decide) ?_
  refine pz_callW (As := [.int (xs (6 * t + 1)), .int (xs (6 * t + 2))]) hC hK dL_law_672 py_X10_paid pv_X10_paid lk_L_88 (mX10_paid e2) rfl rfl (Nat.le_of_ble_eq_true rfl) ⟨by decide, by decide⟩ ⟨by omega, by omega⟩ ?_
  refine pz_lcmp hC dL_law_675 ?_
  exact pz_if_eqT hC dL_law_676 (lg_cmp_self _) (K f2 h2)
theorem lw_c14 (W0 : LwOK G C b L xs) (ht : 6 * t + 6 ≤ L) (hn : n + 1 ≤ 601024) (hk : k + 6 ≤ 7293034) (hf : LI z xo f) (K : ∀ f2, LI z xo f2 → pz_W G C 7 1020 (lwv b xo t) [] f2 (n + 1) (k + 6) Q) : pz_W G C 7 681 (lwv b xo t) [] f n k Q := by
  obtain ⟨hC, hK, hX, hbl, hL, hlt, hXT⟩ := id W0
  obtain ⟨r, f1, f2, e1, e2, h2⟩ := s_sum hf (xs (6 * t + 1)) (xs (6 * t + 2)) (xs (6 * t + 3))
  refine pz_widen (n' := n + 1) (k' := k + 6) (by omega) (by omega) ?_
  refine pz_aload_n hC dL_law_681 3 rfl ?_
  refine lw_arg W0 ht 4 0 rfl rfl dL_law_682 dL_law_683 dL_law_685 dL_law_686 dL_law_687 1 (by decide) (by decide) ?_
  refine lw_arg W0 ht 4 0 rfl rfl dL_law_688 dL_law_689 dL_law_691 dL_law_692 dL_law_693 2 (by decide) (by decide) ?_
  refine lw_arg W0 ht 4 0 rfl rfl dL_law_694 dL_law_695 dL_law_697 dL_law_698 dL_law_699 3 (by decide) (by decide) ?_
  refine pz_callW (As := [.int (xs (6 * t + 1)), .int (xs (6 * t + 2)), .int (xs (6 * t + 3))]) hC hK dL_law_700 py_X9_sum pv_X9_sum lk_L_89 (mX9_sum e1) rfl rfl (Nat.le_of_ble_eq_true rfl) ⟨by decide, by decide⟩ ⟨by omega, by omega⟩ ?_
  refine pz_aload_n hC dL_law_703 2 rfl ?_
  refine lw_arg W0 ht 4 0 rfl rfl dL_law_704 dL_law_705 dL_law_707 dL_law_708 dL_law_709 1 (by decide) (by decide) ?_
  refine lw_arg W0 ht 4 0 rfl rfl dL_law_710 dL_law_711 dL_law_713 dL_law_714 dL_law_715 2 (by decide) (by decide) ?_
  refine lw_arg W0 ht 4 0 rfl rfl dL_law_716 dL_law_717 dL_law_719 dL_law_720 dL_law_721 3 (by decide) (by decide) ?_
  refine pz_callW (As := [.int (xs (6 * t + 1)), .int (xs (6 * t + 2)), .int (xs (6 * t + 3))]) hC hK dL_law_722 py_X10_sum pv_X10_sum lk_L_93 (mX10_sum e2) rfl rfl (Nat.le_of_ble_eq_true rfl) ⟨by decide, by decide⟩ ⟨by omega, by omega⟩ ?_
  refine pz_lcmp hC dL_law_725 ?_
  exact pz_if_eqT hC dL_law_726 (lg_cmp_self _) (K f2 h2)
theorem lw_c15 (W0 : LwOK G C b L xs) (ht : 6 * t + 6 ≤ L) (hn : n + 1 ≤ 601024) (hk : k + 6 ≤ 7293034) (hf : LI z xo f) (K : ∀ f2, LI z xo f2 → pz_W G C 7 1020 (lwv b xo t) [] f2 (n + 1) (k + 6) Q) : pz_W G C 7 731 (lwv b xo t) [] f n k Q := by
  obtain ⟨hC, hK, hX, hbl, hL, hlt, hXT⟩ := id W0
  obtain ⟨r, f1, f2, e1, e2, h2⟩ := s_richest hf (xs (6 * t + 1))
  refine pz_widen (n' := n + 1) (k' := k + 6) (by omega) (by omega) ?_
  refine pz_aload_n hC dL_law_731 3 rfl ?_
  refine lw_arg W0 ht 4 0 rfl rfl dL_law_732 dL_law_733 dL_law_735 dL_law_736 dL_law_737 1 (by decide) (by decide) ?_
  refine pz_callW (As := [.int (xs (6 * t + 1))]) hC hK dL_law_738 py_X9_richest pv_X9_richest lk_L_94 (mX9_richest e1) rfl rfl (Nat.le_of_ble_eq_true rfl) ⟨by decide, by decide⟩ ⟨by omega, by omega⟩ ?_
  refine pz_aload_n hC dL_law_741 2 rfl ?_
  refine lw_arg W0 ht 4 0 rfl rfl dL_law_742 dL_law_743 dL_law_745 dL_law_746 dL_law_747 1 (by decide) (by decide) ?_
  refine pz_callW (As := [.int (xs (6 * t + 1))]) hC hK dL_law_748 py_X10_richest pv_X10_richest lk_L_97 (mX10_richest e2) rfl rfl (Nat.le_of_ble_eq_true rfl) ⟨by decide, by decide⟩ ⟨by omega, by omega⟩ ?_
  exact pz_icmp_eqT hC dL_law_751 rfl (K f2 h2)
theorem lw_c16 (W0 : LwOK G C b L xs) (ht : 6 * t + 6 ≤ L) (hn : n + 1 ≤ 601024) (hk : k + 6 ≤ 7293034) (hf : LI z xo f) (K : ∀ f2, LI z xo f2 → pz_W G C 7 1020 (lwv b xo t) [] f2 (n + 1) (k + 6) Q) : pz_W G C 7 756 (lwv b xo t) [] f n k Q := by
  obtain ⟨hC, hK, hX, hbl, hL, hlt, hXT⟩ := id W0
  obtain ⟨r, f1, f2, e1, e2, h2⟩ := s_happens hf (xs (6 * t + 1))
  refine pz_widen (n' := n + 1) (k' := k + 6) (by omega) (by omega) ?_
  refine pz_aload_n hC dL_law_756 3 rfl ?_
  refine lw_arg W0 ht 4 0 rfl rfl dL_law_757 dL_law_758 dL_law_760 dL_law_761 dL_law_762 1 (by decide) (by decide) ?_
  refine pz_callW (As := [.int (xs (6 * t + 1))]) hC hK dL_law_763 py_X9_happens pv_X9_happens lk_L_98 (mX9_happens e1) rfl rfl (Nat.le_of_ble_eq_true rfl) ⟨by decide, by decide⟩ ⟨by omega, by omega⟩ ?_
  refine pz_aload_n hC dL_law_766 2 rfl ?_
  refine lw_arg W0 ht 4 0 rfl rfl dL_law_767 dL_law_768 dL_law_770 dL_law_771 dL_law_772 1 (by decide) (by decide) ?_
  refine pz_callW (As := [.int (xs (6 * t + 1))]) hC hK dL_law_773 py_X10_happens pv_X10_happens lk_L_101 (mX10_happens e2) rfl rfl (Nat.le_of_ble_eq_true rfl) ⟨by decide, by decide⟩ ⟨by omega, by omega⟩ ?_
  exact pz_icmp_eqT hC dL_law_776 rfl (K f2 h2)
theorem lw_c17 (W0 : LwOK G C b L xs) (ht : 6 * t + 6 ≤ L) (hn : n + 1 ≤ 601024) (hk : k + 6 ≤ 7293034) (hf : LI z xo f) (K : ∀ f2, LI z xo f2 → pz_W G C 7 1020 (lwv b xo t) [] f2 (n + 1) (k + 6) Q) : pz_W G C 7 781 (lwv b xo t) [] f n k Q := by
  obtain ⟨hC, hK, hX, hbl, hL, hlt, hXT⟩ := id W0
  obtain ⟨r, f2, e1, e2, h2⟩ := s_lives hf (xs (6 * t + 1))
  refine pz_widen (n' := n + 1) (k' := k + 6) (by omega) (by omega) ?_
  refine pz_aload_n hC dL_law_781 3 rfl ?_
  refine lw_arg W0 ht 4 0 rfl rfl dL_law_782 dL_law_783 dL_law_785 dL_law_786 dL_law_787 1 (by decide) (by decide) ?_
  refine pz_callW (As := [.int (xs (6 * t + 1))]) hC hK dL_law_788 py_X9_lives pv_X9_lives lk_L_102 (mX9_lives e1) rfl rfl (Nat.le_of_ble_eq_true rfl) ⟨by decide, by decide⟩ ⟨by omega, by omega⟩ ?_
  refine pz_aload_n hC dL_law_791 2 rfl ?_
  refine lw_arg W0 ht 4 0 rfl rfl dL_law_792 dL_law_793 dL_law_795 dL_law_796 dL_law_797 1 (by decide) (by decide) ?_
  refine pz_callW (As := [.int (xs (6 * t + 1))]) hC hK dL_law_798 py_X10_lives pv_X10_lives lk_L_105 (mX10_lives e2) rfl rfl (Nat.le_of_ble_eq_true rfl) ⟨by decide, by decide⟩ ⟨by omega, by omega⟩ ?_
  exact pz_icmp_eqT hC dL_law_801 rfl (K f2 h2)
theorem lw_c18 (W0 : LwOK G C b L xs) (ht : 6 * t + 6 ≤ L) (hn : n + 1 ≤ 601024) (hk : k + 6 ≤ 7293034) (hf : LI z xo f) (K : ∀ f2, LI z xo f2 → pz_W G C 7 1020 (lwv b xo t) [] f2 (n + 1) (k + 6) Q) : pz_W G C 7 806 (lwv b xo t) [] f n k Q := by
  obtain ⟨hC, hK, hX, hbl, hL, hlt, hXT⟩ := id W0
  obtain ⟨r, f1, f2, e1, e2, h2⟩ := s_discount hf (xs (6 * t + 1))
  refine pz_widen (n' := n + 1) (k' := k + 6) (by omega) (by omega) ?_
  refine pz_aload_n hC dL_law_806 3 rfl ?_
  refine lw_arg W0 ht 4 0 rfl rfl dL_law_807 dL_law_808 dL_law_810 dL_law_811 dL_law_812 1 (by decide) (by decide) ?_
  refine pz_callW (As := [.int (xs (6 * t + 1))]) hC hK dL_law_813 py_X9_discount pv_X9_discount lk_L_106 (mX9_discount e1) rfl rfl (Nat.le_of_ble_eq_true rfl) ⟨by decide, by decide⟩ ⟨by omega, by omega⟩ ?_
  refine pz_aload_n hC dL_law_816 2 rfl ?_
  refine lw_arg W0 ht 4 0 rfl rfl dL_law_817 dL_law_818 dL_law_820 dL_law_821 dL_law_822 1 (by decide) (by decide) ?_
  refine pz_callW (As := [.int (xs (6 * t + 1))]) hC hK dL_law_823 py_X10_discount pv_X10_discount lk_L_109 (mX10_discount e2) rfl rfl (Nat.le_of_ble_eq_true rfl) ⟨by decide, by decide⟩ ⟨by omega, by omega⟩ ?_
  exact pz_icmp_eqT hC dL_law_826 rfl (K f2 h2)
theorem lw_c19 (W0 : LwOK G C b L xs) (ht : 6 * t + 6 ≤ L) (hn : n + 1 ≤ 601024) (hk : k + 6 ≤ 7293034) (hf : LI z xo f) (K : ∀ f2, LI z xo f2 → pz_W G C 7 1020 (lwv b xo t) [] f2 (n + 1) (k + 6) Q) : pz_W G C 7 831 (lwv b xo t) [] f n k Q := by
  obtain ⟨hC, hK, hX, hbl, hL, hlt, hXT⟩ := id W0
  obtain ⟨r, f1, f2, e1, e2, h2⟩ := s_annuity hf (xs (6 * t + 1)) (xs (6 * t + 2)) (xs (6 * t + 3))
  refine pz_widen (n' := n + 1) (k' := k + 6) (by omega) (by omega) ?_
  refine pz_aload_n hC dL_law_831 3 rfl ?_
  refine lw_arg W0 ht 4 0 rfl rfl dL_law_832 dL_law_833 dL_law_835 dL_law_836 dL_law_837 1 (by decide) (by decide) ?_
  refine lw_arg W0 ht 4 0 rfl rfl dL_law_838 dL_law_839 dL_law_841 dL_law_842 dL_law_843 2 (by decide) (by decide) ?_
  refine lw_arg W0 ht 4 0 rfl rfl dL_law_844 dL_law_845 dL_law_847 dL_law_848 dL_law_849 3 (by decide) (by decide) ?_
  refine pz_callW (As := [.int (xs (6 * t + 1)), .int (xs (6 * t + 2)), .int (xs (6 * t + 3))]) hC hK dL_law_850 py_X9_annuity pv_X9_annuity lk_L_110 (mX9_annuity e1) rfl rfl (Nat.le_of_ble_eq_true rfl) ⟨by decide, by decide⟩ ⟨by omega, by omega⟩ ?_
  refine pz_aload_n hC dL_law_853 2 rfl ?_
  refine lw_arg W0 ht 4 0 rfl rfl dL_law_854 dL_law_855 dL_law_857 dL_law_858 dL_law_859 1 (by decide) (by decide) ?_
  refine lw_arg W0 ht 4 0 rfl rfl dL_law_860 dL_law_861 dL_law_863 dL_law_864 dL_law_865 2 (by decide) (by decide) ?_
  refine lw_arg W0 ht 4 0 rfl rfl dL_law_866 dL_law_867 dL_law_869 dL_law_870 dL_law_871 3 (by decide) (by decide) ?_
  refine pz_callW (As := [.int (xs (6 * t + 1)), .int (xs (6 * t + 2)), .int (xs (6 * t + 3))]) hC hK dL_law_872 py_X10_annuity pv_X10_annuity lk_L_113 (mX10_annuity e2) rfl rfl (Nat.le_of_ble_eq_true rfl) ⟨by decide, by decide⟩ ⟨by omega, by omega⟩ ?_
  refine pz_lcmp hC dL_law_875 ?_
  exact pz_if_eqT hC dL_law_876 (lg_cmp_self _) (K f2 h2)
theorem lw_c20 (W0 : LwOK G C b L xs) (ht : 6 * t + 6 ≤ L) (hn : n + 1 ≤ 601024) (hk : k + 6 ≤ 7293034) (hf : LI z xo f) (K : ∀ f2, LI z xo f2 → pz_W G C 7 1020 (lwv b xo t) [] f2 (n + 1) (k + 6) Q) : pz_W G C 7 881 (lwv b xo t) [] f n k Q := by
  obtain ⟨hC, hK, hX, hbl, hL, hlt, hXT⟩ := id W0
  obtain ⟨r, f1, f2, e1, e2, h2⟩ := s_own hf (xs (6 * t + 1))
  refine pz_widen (n' := n + 1) (k' := k + 6) (by omega) (by omega) ?_
  refine pz_aload_n hC dL_law_881 3 rfl ?_
  refine lw_arg W0 ht 4 0 rfl rfl dL_law_882 dL_law_883 dL_law_885 dL_law_886 dL_law_887 1 (by decide) (by decide) ?_
  refine pz_callW (As := [.int (xs (6 * t + 1))]) hC hK dL_law_888 py_X9_own pv_X9_own lk_L_114 (mX9_own e1) rfl rfl (Nat.le_of_ble_eq_true rfl) ⟨by decide, by decide⟩ ⟨by omega, by omega⟩ ?_
  refine pz_aload_n hC dL_law_891 2 rfl ?_
  refine lw_arg W0 ht 4 0 rfl rfl dL_law_892 dL_law_893 dL_law_895 dL_law_896 dL_law_897 1 (by decide) (by decide) ?_
  refine pz_callW (As := [.int (xs (6 * t + 1))]) hC hK dL_law_898 py_X10_own pv_X10_own lk_L_118 (mX10_own e2) rfl rfl (Nat.le_of_ble_eq_true rfl) ⟨by decide, by decide⟩ ⟨by omega, by omega⟩ ?_
  refine pz_lcmp hC dL_law_901 ?_
  exact pz_if_eqT hC dL_law_902 (lg_cmp_self _) (K f2 h2)
theorem lw_c21 (W0 : LwOK G C b L xs) (ht : 6 * t + 6 ≤ L) (hn : n + 1 ≤ 601024) (hk : k + 6 ≤ 7293034) (hf : LI z xo f) (K : ∀ f2, LI z xo f2 → pz_W G C 7 1020 (lwv b xo t) [] f2 (n + 1) (k + 6) Q) : pz_W G C 7 907 (lwv b xo t) [] f n k Q := by
  obtain ⟨hC, hK, hX, hbl, hL, hlt, hXT⟩ := id W0
  obtain ⟨r, f1, f2, e1, e2, h2⟩ := s_worth hf (xs (6 * t + 1)) (xs (6 * t + 2))
  refine pz_widen (n' := n + 1) (k' := k + 6) (by omega) (by omega) ?_
  refine pz_aload_n hC dL_law_907 3 rfl ?_
  refine lw_arg W0 ht 4 0 rfl rfl dL_law_908 dL_law_909 dL_law_911 dL_law_912 dL_law_913 1 (by decide) (by decide) ?_
  refine lw_arg W0 ht 4 0 rfl rfl dL_law_914 dL_law_915 dL_law_917 dL_law_918 dL_law_919 2 (by decide) (by decide) ?_
  refine pz_callW (As := [.int (xs (6 * t + 1)), .int (xs (6 * t + 2))]) hC hK dL_law_920 py_X9_worth pv_X9_worth lk_L_119 (mX9_worth e1) rfl rfl (Nat.le_of_ble_eq_true rfl) ⟨by decide, by decide⟩ ⟨by omega, by omega⟩ ?_
  refine pz_aload_n hC dL_law_923 2 rfl ?_
  refine lw_arg W0 ht 4 0 rfl rfl dL_law_924 dL_law_925 dL_law_927 dL_law_928 dL_law_929 1 (by decide) (by decide) ?_
  refine lw_arg W0 ht 4 0 rfl rfl dL_law_930 dL_law_931 dL_law_933 dL_law_934 dL_law_935 2 (by decide) (by decide) ?_
  refine pz_callW (As := [.int (xs (6 * t + 1)), .int (xs (6 * t + 2))]) hC hK dL_law_936 py_X10_worth pv_X10_worth lk_L_122 (mX10_worth e2) rfl rfl (Nat.le_of_ble_eq_true rfl) ⟨by decide, by decide⟩ ⟨by omega, by omega⟩ ?_
  refine pz_lcmp hC dL_law_939 ?_
  exact pz_if_eqT hC dL_law_940 (lg_cmp_self _) (K f2 h2)
theorem lw_c22 (W0 : LwOK G C b L xs) (ht : 6 * t + 6 ≤ L) (hn : n + 1 ≤ 601024) (hk : k + 6 ≤ 7293034) (hf : LI z xo f) (K : ∀ f2, LI z xo f2 → pz_W G C 7 1020 (lwv b xo t) [] f2 (n + 1) (k + 6) Q) : pz_W G C 7 945 (lwv b xo t) [] f n k Q := by
  obtain ⟨hC, hK, hX, hbl, hL, hlt, hXT⟩ := id W0
  obtain ⟨r, f1, f2, e1, e2, h2⟩ := s_best hf (xs (6 * t + 1))
  refine pz_widen (n' := n + 1) (k' := k + 6) (by omega) (by omega) ?_
  refine pz_aload_n hC dL_law_945 3 rfl ?_
  refine lw_arg W0 ht 4 0 rfl rfl dL_law_946 dL_law_947 dL_law_949 dL_law_950 dL_law_951 1 (by decide) (by decide) ?_
  refine pz_callW (As := [.int (xs (6 * t + 1))]) hC hK dL_law_952 py_X9_claimBest pv_X9_claimBest lk_L_123 (mX9_claimBest e1) rfl rfl (Nat.le_of_ble_eq_true rfl) ⟨by decide, by decide⟩ ⟨by omega, by omega⟩ ?_
  refine pz_aload_n hC dL_law_955 2 rfl ?_
  refine lw_arg W0 ht 4 0 rfl rfl dL_law_956 dL_law_957 dL_law_959 dL_law_960 dL_law_961 1 (by decide) (by decide) ?_
  refine pz_callW (As := [.int (xs (6 * t + 1))]) hC hK dL_law_962 py_X10_claimBest pv_X10_claimBest lk_L_126 (mX10_claimBest e2) rfl rfl (Nat.le_of_ble_eq_true rfl) ⟨by decide, by decide⟩ ⟨by omega, by omega⟩ ?_
  exact pz_icmp_eqT hC dL_law_965 rfl (K f2 h2)
theorem lw_c23 (W0 : LwOK G C b L xs) (ht : 6 * t + 6 ≤ L) (hn : n + 1 ≤ 601024) (hk : k + 6 ≤ 7293034) (hf : LI z xo f) (K : ∀ f2, LI z xo f2 → pz_W G C 7 1020 (lwv b xo t) [] f2 (n + 1) (k + 6) Q) : pz_W G C 7 970 (lwv b xo t) [] f n k Q := by
  obtain ⟨hC, hK, hX, hbl, hL, hlt, hXT⟩ := id W0
  obtain ⟨r, f1, f2, e1, e2, h2⟩ := s_half hf (xs (6 * t + 1))
  refine pz_widen (n' := n + 1) (k' := k + 6) (by omega) (by omega) ?_
  refine pz_aload_n hC dL_law_970 3 rfl ?_
  refine lw_arg W0 ht 4 0 rfl rfl dL_law_971 dL_law_972 dL_law_974 dL_law_975 dL_law_976 1 (by decide) (by decide) ?_
  refine pz_callW (As := [.int (xs (6 * t + 1))]) hC hK dL_law_977 py_X9_half pv_X9_half lk_L_127 (mX9_half e1) rfl rfl (Nat.le_of_ble_eq_true rfl) ⟨by decide, by decide⟩ ⟨by omega, by omega⟩ ?_
  refine pz_aload_n hC dL_law_980 2 rfl ?_
  refine lw_arg W0 ht 4 0 rfl rfl dL_law_981 dL_law_982 dL_law_984 dL_law_985 dL_law_986 1 (by decide) (by decide) ?_
  refine pz_callW (As := [.int (xs (6 * t + 1))]) hC hK dL_law_987 py_X10_half pv_X10_half lk_L_130 (mX10_half e2) rfl rfl (Nat.le_of_ble_eq_true rfl) ⟨by decide, by decide⟩ ⟨by omega, by omega⟩ ?_
  exact pz_icmp_eqT hC dL_law_990 rfl (K f2 h2)
theorem lw_c24 (W0 : LwOK G C b L xs) (ht : 6 * t + 6 ≤ L) (hn : n + 1 ≤ 601024) (hk : k + 6 ≤ 7293034) (hf : LI z xo f) (K : ∀ f2, LI z xo f2 → pz_W G C 7 1020 (lwv b xo t) [] f2 (n + 1) (k + 6) Q) : pz_W G C 7 995 (lwv b xo t) [] f n k Q := by
  obtain ⟨hC, hK, hX, hbl, hL, hlt, hXT⟩ := id W0
  obtain ⟨r, f1, f2, e1, e2, h2⟩ := s_crosses hf (xs (6 * t + 1))
  refine pz_widen (n' := n + 1) (k' := k + 6) (by omega) (by omega) ?_
  refine pz_aload_n hC dL_law_995 3 rfl ?_
  refine lw_arg W0 ht 4 0 rfl rfl dL_law_996 dL_law_997 dL_law_999 dL_law_1000 dL_law_1001 1 (by decide) (by decide) ?_
  refine pz_callW (As := [.int (xs (6 * t + 1))]) hC hK dL_law_1002 py_X9_crosses pv_X9_crosses lk_L_131 (mX9_crosses e1) rfl rfl (Nat.le_of_ble_eq_true rfl) ⟨by decide, by decide⟩ ⟨by omega, by omega⟩ ?_
  refine pz_aload_n hC dL_law_1005 2 rfl ?_
  refine lw_arg W0 ht 4 0 rfl rfl dL_law_1006 dL_law_1007 dL_law_1009 dL_law_1010 dL_law_1011 1 (by decide) (by decide) ?_
  refine pz_callW (As := [.int (xs (6 * t + 1))]) hC hK dL_law_1012 py_X10_crosses pv_X10_crosses lk_L_134 (mX10_crosses e2) rfl rfl (Nat.le_of_ble_eq_true rfl) ⟨by decide, by decide⟩ ⟨by omega, by omega⟩ ?_
  exact pz_icmp_eqT hC dL_law_1015 rfl (K f2 h2)
theorem lw_c7 (W0 : LwOK G C b L xs) (ht : 6 * t + 6 ≤ L) (hn : n + 1 ≤ 601024) (hk : k + 6 ≤ 7293034) (hf : LI z xo f) (K : ∀ f2, LI z xo f2 → pz_W G C 7 1020 (lwv b xo t) [] f2 (n + 1) (k + 6) Q) : pz_W G C 7 367 (lwv b xo t) [] f n k Q := by
  obtain ⟨hC, hK, hX, hbl, hL, hlt, hXT⟩ := id W0
  obtain ⟨ro, e1, ho, hs⟩ := s_span hf (xs (6 * t + 1)) (xs (6 * t + 2))
  refine pz_aload_n hC dL_law_367 3 rfl ?_
  refine lw_arg W0 ht 4 0 rfl rfl dL_law_368 dL_law_369 dL_law_371 dL_law_372 dL_law_373 1 (by decide) (by decide) ?_
  refine lw_arg W0 ht 4 0 rfl rfl dL_law_374 dL_law_375 dL_law_377 dL_law_378 dL_law_379 2 (by decide) (by decide) ?_
  refine pz_aload_n hC dL_law_380 1 rfl ?_
  refine pz_callL (np := 4) (As := [.ref xo, .int (xs (6 * t + 1)), .int (xs (6 * t + 2)), .ref (xo + 292)]) hC hK dL_law_381 (List.mem_of_getElem? (i := 914) (by decide +kernel)) (List.mem_of_getElem? (i := 119) (by decide +kernel)) ⟨by decide +kernel, by decide +kernel⟩ (by decide +kernel) (List.mem_of_getElem? (i := 912) (by decide +kernel)) (List.mem_of_getElem? (i := 913) (by decide +kernel)) (mL_span hlt hXT e1 ho) rfl rfl (Nat.le_of_ble_eq_true rfl) ⟨by decide, by decide⟩ ⟨by omega, by omega⟩ (fun v f' hp => ?_)
  obtain ⟨r, f2, e2, e3, h2, hv0⟩ := hs v f' hp
  refine pz_istore (lv' := (5, .int v) :: lwv b xo t) hC dL_law_384 (by decide) rfl ?_
  refine pz_aload_n hC dL_law_386 3 rfl ?_
  refine lw_arg W0 ht 5 1 rfl rfl dL_law_387 dL_law_388 dL_law_390 dL_law_391 dL_law_392 1 (by decide) (by decide) ?_
  refine lw_arg W0 ht 5 1 rfl rfl dL_law_393 dL_law_394 dL_law_396 dL_law_397 dL_law_398 2 (by decide) (by decide) ?_
  refine pz_callW (As := [.int (xs (6 * t + 1)), .int (xs (6 * t + 2))]) hC hK dL_law_399 py_X10_span pv_X10_span lk_L_60 (mX10_span e2) rfl rfl (Nat.le_of_ble_eq_true rfl) ⟨by decide, by decide⟩ ⟨by omega, by omega⟩ ?_
  refine pz_istore (lv' := (6, .int r) :: (5, .int v) :: lwv b xo t) hC dL_law_402 (by decide) rfl ?_
  refine pz_aload_n hC dL_law_404 4 rfl ?_
  refine pz_callW (As := []) hC hK dL_law_405 py_X10_thrown pv_X10_thrown lk_L_61 (mX10_thrown e3) rfl rfl (Nat.le_of_ble_eq_true rfl) ⟨by decide, by decide⟩ ⟨by omega, by omega⟩ ?_
  refine pz_iload hC dL_law_408 1 rfl ?_
  refine pz_icmp_eqT hC dL_law_410 rfl ?_
  refine pz_iload hC dL_law_415 1 rfl ?_
  have K2 : pz_W G C 7 432 ((6, .int r) :: (5, .int v) :: lwv b xo t) [] f2 (n + 1) (k + 6) Q := pz_goto hC dL_law_432 (pz_sub (lv' := lwv b xo t) [2, 3, 4, 5, 6] rfl (K f2 h2))
  refine pz_if_ne (α := Unit) (A := some ()) (B := some ()) (r := ()) hC dL_law_417 (by split <;> rfl) (fun _ _ => K2) (fun hv _ => ?_)
  refine pz_aload_n hC dL_law_420 3 rfl ?_
  refine pz_iconst (v := (0 : Int32)) hC dL_law_421 (by decide) ?_
  refine pz_lald (g := fun x => some x) (r := r.toInt64) hC dL_law_422 (by rw [hv0 hv]; rfl) (fun x hx => ?_)
  cases hx
  refine pz_iload hC dL_law_423 0 rfl ?_
  refine pz_i2l hC dL_law_425 ?_
  refine pz_lcmp hC dL_law_426 ?_
  exact pz_if_eqT hC dL_law_427 (lg_cmp_self _) K2
theorem lw_c8 (W0 : LwOK G C b L xs) (ht : 6 * t + 6 ≤ L) (hn : n + 1 ≤ 601024) (hk : k + 6 ≤ 7293034) (hf : LI z xo f) (K : ∀ f2, LI z xo f2 → pz_W G C 7 1020 (lwv b xo t) [] f2 (n + 1) (k + 6) Q) : pz_W G C 7 435 (lwv b xo t) [] f n k Q := by
  obtain ⟨hC, hK, hX, hbl, hL, hlt, hXT⟩ := id W0
  obtain ⟨ro, e1, ho, hs⟩ := s_spouse hf (xs (6 * t + 1)) (xs (6 * t + 2))
  refine pz_aload_n hC dL_law_435 3 rfl ?_
  refine lw_arg W0 ht 4 0 rfl rfl dL_law_436 dL_law_437 dL_law_439 dL_law_440 dL_law_441 1 (by decide) (by decide) ?_
  refine lw_arg W0 ht 4 0 rfl rfl dL_law_442 dL_law_443 dL_law_445 dL_law_446 dL_law_447 2 (by decide) (by decide) ?_
  refine pz_aload_n hC dL_law_448 1 rfl ?_
  refine pz_callL (np := 4) (As := [.ref xo, .int (xs (6 * t + 1)), .int (xs (6 * t + 2)), .ref (xo + 292)]) hC hK dL_law_449 (List.mem_of_getElem? (i := 988) (by decide +kernel)) (List.mem_of_getElem? (i := 119) (by decide +kernel)) ⟨by decide +kernel, by decide +kernel⟩ (by decide +kernel) (List.mem_of_getElem? (i := 986) (by decide +kernel)) (List.mem_of_getElem? (i := 987) (by decide +kernel)) (mL_spouse hlt hXT e1 ho) rfl rfl (Nat.le_of_ble_eq_true rfl) ⟨by decide, by decide⟩ ⟨by omega, by omega⟩ (fun v f' hp => ?_)
  obtain ⟨r, f2, e2, e3, h2, hv0⟩ := hs v f' hp
  refine pz_istore (lv' := (5, .int v) :: lwv b xo t) hC dL_law_452 (by decide) rfl ?_
  refine pz_aload_n hC dL_law_454 3 rfl ?_
  refine lw_arg W0 ht 5 1 rfl rfl dL_law_455 dL_law_456 dL_law_458 dL_law_459 dL_law_460 1 (by decide) (by decide) ?_
  refine lw_arg W0 ht 5 1 rfl rfl dL_law_461 dL_law_462 dL_law_464 dL_law_465 dL_law_466 2 (by decide) (by decide) ?_
  refine pz_callW (As := [.int (xs (6 * t + 1)), .int (xs (6 * t + 2))]) hC hK dL_law_467 py_X10_spouse pv_X10_spouse lk_L_66 (mX10_spouse e2) rfl rfl (Nat.le_of_ble_eq_true rfl) ⟨by decide, by decide⟩ ⟨by omega, by omega⟩ ?_
  refine pz_istore (lv' := (6, .int r) :: (5, .int v) :: lwv b xo t) hC dL_law_470 (by decide) rfl ?_
  refine pz_aload_n hC dL_law_472 4 rfl ?_
  refine pz_callW (As := []) hC hK dL_law_473 py_X10_thrown pv_X10_thrown lk_L_61 (mX10_thrown e3) rfl rfl (Nat.le_of_ble_eq_true rfl) ⟨by decide, by decide⟩ ⟨by omega, by omega⟩ ?_
  refine pz_iload hC dL_law_476 1 rfl ?_
  refine pz_icmp_eqT hC dL_law_478 rfl ?_
  refine pz_iload hC dL_law_483 1 rfl ?_
  have K2 : pz_W G C 7 500 ((6, .int r) :: (5, .int v) :: lwv b xo t) [] f2 (n + 1) (k + 6) Q := pz_goto hC dL_law_500 (pz_sub (lv' := lwv b xo t) [2, 3, 4, 5, 6] rfl (K f2 h2))
  refine pz_if_ne (α := Unit) (A := some ()) (B := some ()) (r := ()) hC dL_law_485 (by split <;> rfl) (fun _ _ => K2) (fun hv _ => ?_)
  refine pz_aload_n hC dL_law_488 3 rfl ?_
  refine pz_iconst (v := (0 : Int32)) hC dL_law_489 (by decide) ?_
  refine pz_lald (g := fun x => some x) (r := r.toInt64) hC dL_law_490 (by rw [hv0 hv]; rfl) (fun x hx => ?_)
  cases hx
  refine pz_iload hC dL_law_491 0 rfl ?_
  refine pz_i2l hC dL_law_493 ?_
  refine pz_lcmp hC dL_law_494 ?_
  exact pz_if_eqT hC dL_law_495 (lg_cmp_self _) K2
theorem lw_31 {x : Int32} : ∃ j, j < 32 ∧ x &&& 31 = nI j := by
  refine ⟨(x &&& 31).toNatClampNeg, ?_⟩
  have h1 : 0 ≤ (x &&& 31).toInt ∧ (x &&& 31).toInt < 32 := i32_and31 x
  obtain ⟨e1, e2⟩ := nI_clampI (x := x &&& 31) h1.1
  exact ⟨by omega, e1⟩
theorem lw_body (W0 : LwOK G C b L xs) (ht : 6 * t + 6 ≤ L) (hn : n + 1 ≤ 601024) (hk : k + 6 ≤ 7293034) (hf : LI z xo f) (K : ∀ f2, LI z xo f2 → pz_W G C 7 1020 (lwv b xo t) [] f2 (n + 1) (k + 6) Q) : pz_W G C 7 33 (lwv b xo t) [] f n k Q := by
  obtain ⟨hC, hK, hX, hbl, hL, hlt, hXT⟩ := id W0
  refine pz_aload_n hC dL_law_33 4 rfl ?_
  refine pz_iload hC dL_law_34 0 rfl ?_
  refine pz_sld hC dL_law_36 hX hbl (j := 6 * t) rfl (by omega) hL ?_
  refine pz_bipush (v := (31 : Int32)) hC dL_law_37 (by decide) ?_
  refine pz_iand hC dL_law_39 ?_
  obtain ⟨j, hj, ej⟩ := lw_31 (x := xs (6 * t))
  by_cases hj25 : 25 ≤ j
  · refine pz_tabO (tgt := 1020) hC dL_law_40 (Or.inr (by rw [ej, nI_toInt (by omega)]; omega)) rfl ?_
    exact pz_widen (by omega) (by omega) (K f hf)
  rcases (show j = 0 ∨ j = 1 ∨ j = 2 ∨ j = 3 ∨ j = 4 ∨ j = 5 ∨ j = 6 ∨ j = 7 ∨ j = 8 ∨ j = 9 ∨ j = 10 ∨ j = 11 ∨ j = 12 ∨ j = 13 ∨ j = 14 ∨ j = 15 ∨ j = 16 ∨ j = 17 ∨ j = 18 ∨ j = 19 ∨ j = 20 ∨ j = 21 ∨ j = 22 ∨ j = 23 ∨ j = 24 by omega) with rfl | rfl | rfl | rfl | rfl | rfl | rfl | rfl | rfl | rfl | rfl | rfl | rfl | rfl | rfl | rfl | rfl | rfl | rfl | rfl | rfl | rfl | rfl | rfl | rfl
  · exact pz_tabI (v := (0 : Int32)) (tgt := 156) hC dL_law_40 ej (by decide) (by decide) rfl rfl (lw_c0 W0 ht hn hk hf K)
  · exact pz_tabI (v := (1 : Int32)) (tgt := 229) hC dL_law_40 ej (by decide) (by decide) rfl rfl (lw_c1 W0 ht hn hk hf K)
  · exact pz_tabI (v := (2 : Int32)) (tgt := 254) hC dL_law_40 ej (by decide) (by decide) rfl rfl (lw_c2 W0 ht hn hk hf K)
  · exact pz_tabI (v := (3 : Int32)) (tgt := 267) hC dL_law_40 ej (by decide) (by decide) rfl rfl (lw_c3 W0 ht hn hk hf K)
  · exact pz_tabI (v := (4 : Int32)) (tgt := 280) hC dL_law_40 ej (by decide) (by decide) rfl rfl (lw_c4 W0 ht hn hk hf K)
  · exact pz_tabI (v := (5 : Int32)) (tgt := 329) hC dL_law_40 ej (by decide) (by decide) rfl rfl (lw_c5 W0 ht hn hk hf K)
  · exact pz_tabI (v := (6 : Int32)) (tgt := 342) hC dL_law_40 ej (by decide) (by decide) rfl rfl (lw_c6 W0 ht hn hk hf K)
  · exact pz_tabI (v := (7 : Int32)) (tgt := 367) hC dL_law_40 ej (by decide) (by decide) rfl rfl (lw_c7 W0 ht hn hk hf K)
  · exact pz_tabI (v := (8 : Int32)) (tgt := 435) hC dL_law_40 ej (by decide) (by decide) rfl rfl (lw_c8 W0 ht hn hk hf K)
  · exact pz_tabI (v := (9 : Int32)) (tgt := 503) hC dL_law_40 ej (by decide) (by decide) rfl rfl (lw_c9 W0 ht hn hk hf K)
  · exact pz_tabI (v := (10 : Int32)) (tgt := 540) hC dL_law_40 ej (by decide) (by decide) rfl rfl (lw_c10 W0 ht hn hk hf K)
  · exact pz_tabI (v := (11 : Int32)) (tgt := 565) hC dL_law_40 ej (by decide) (by decide) rfl rfl (lw_c11 W0 ht hn hk hf K)
  · exact pz_tabI (v := (12 : Int32)) (tgt := 590) hC dL_law_40 ej (by decide) (by decide) rfl rfl (lw_c12 W0 ht hn hk hf K)
  · exact pz_tabI (v := (13 : Int32)) (tgt := 643) hC dL_law_40 ej (by decide) (by decide) rfl rfl (lw_c13 W0 ht hn hk hf K)
  · exact pz_tabI (v := (14 : Int32)) (tgt := 681) hC dL_law_40 ej (by decide) (by decide) rfl rfl (lw_c14 W0 ht hn hk hf K)
  · exact pz_tabI (v := (15 : Int32)) (tgt := 731) hC dL_law_40 ej (by decide) (by decide) rfl rfl (lw_c15 W0 ht hn hk hf K)
  · exact pz_tabI (v := (16 : Int32)) (tgt := 756) hC dL_law_40 ej (by decide) (by decide) rfl rfl (lw_c16 W0 ht hn hk hf K)
  · exact pz_tabI (v := (17 : Int32)) (tgt := 781) hC dL_law_40 ej (by decide) (by decide) rfl rfl (lw_c17 W0 ht hn hk hf K)
  · exact pz_tabI (v := (18 : Int32)) (tgt := 806) hC dL_law_40 ej (by decide) (by decide) rfl rfl (lw_c18 W0 ht hn hk hf K)
  · exact pz_tabI (v := (19 : Int32)) (tgt := 831) hC dL_law_40 ej (by decide) (by decide) rfl rfl (lw_c19 W0 ht hn hk hf K)
  · exact pz_tabI (v := (20 : Int32)) (tgt := 881) hC dL_law_40 ej (by decide) (by decide) rfl rfl (lw_c20 W0 ht hn hk hf K)
  · exact pz_tabI (v := (21 : Int32)) (tgt := 907) hC dL_law_40 ej (by decide) (by decide) rfl rfl (lw_c21 W0 ht hn hk hf K)
  · exact pz_tabI (v := (22 : Int32)) (tgt := 945) hC dL_law_40 ej (by decide) (by decide) rfl rfl (lw_c22 W0 ht hn hk hf K)
  · exact pz_tabI (v := (23 : Int32)) (tgt := 970) hC dL_law_40 ej (by decide) (by decide) rfl rfl (lw_c23 W0 ht hn hk hf K)
  · exact pz_tabI (v := (24 : Int32)) (tgt := 995) hC dL_law_40 ej (by decide) (by decide) rfl rfl (lw_c24 W0 ht hn hk hf K)
theorem lw_loop (W0 : LwOK G C b L xs) (hE : ∀ f n k, n ≤ 601024 → k ≤ 7293034 → ∀ lv, pz_W G C 7 1026 lv [] f n k Q) : ∀ (N t : Nat) (f : pz_H) (n k : Nat), 6 * t ≤ L → L ≤ 6 * (t + N) → LI z xo f → n + N ≤ 601024 → k + 6 * N ≤ 7293034 → pz_W G C 7 23 (lwv b xo t) [] f n k Q := by
  obtain ⟨hC, hK, hX, hbl, hL, hlt, hXT⟩ := id W0
  intro N
  induction N with
  | zero =>
    intro t f n k h1 h2 hf hn hk
    refine pz_iload hC dL_law_23 0 rfl ?_
    refine pz_aload_n hC dL_law_25 4 rfl ?_
    refine pz_slen hC dL_law_26 hX hbl ?_
    refine pz_bipush (v := (6 : Int32)) hC dL_law_27 (by decide) ?_
    refine pz_isub hC dL_law_29 ?_
    refine pz_icmp_gtT hC dL_law_30 ?_ (hE f n k (by omega) (by omega) _)
    rw [i32_lt, i32_sub (by rw [nI_toInt (by omega)]; show -2147483648 ≤ (L : Int) - 6; omega) (by rw [nI_toInt (by omega)]; show (L : Int) - 6 ≤ 2147483647; omega), nI_toInt (by omega), nI_toInt (by omega)]
    show (L : Int) - 6 < _
    omega
  | succ N ih =>
    intro t f n k h1 h2 hf hn hk
    refine pz_iload hC dL_law_23 0 rfl ?_
    refine pz_aload_n hC dL_law_25 4 rfl ?_
    refine pz_slen hC dL_law_26 hX hbl ?_
    refine pz_bipush (v := (6 : Int32)) hC dL_law_27 (by decide) ?_
    refine pz_isub hC dL_law_29 ?_
    have e6 : (nI L - 6 : Int32).toInt = (L : Int) - 6 := by
      rw [i32_sub (by rw [nI_toInt (by omega)]; show -2147483648 ≤ (L : Int) - 6; omega) (by rw [nI_toInt (by omega)]; show (L : Int) - 6 ≤ 2147483647; omega), nI_toInt (by omega)]
      rfl
    by_cases hs : 6 * t + 6 ≤ L
    · refine pz_icmp_gtF hC dL_law_30 (by rw [i32_lt, e6, nI_toInt (by omega)]; omega) ?_
      refine lw_body W0 hs (by omega) (by omega) hf (fun f2 h2' => ?_)
      refine pz_iinc (v := nI (6 * (t + 1))) (lv' := lwv b xo (t + 1)) hC dL_law_1020 0 rfl (nI_add _ 6) (by decide) rfl ?_
      refine pz_goto hC dL_law_1023 ?_
      exact ih (t + 1) f2 (n + 1) (k + 6) (by omega) (by omega) h2' (by omega) (by omega)
    · exact pz_icmp_gtT hC dL_law_30 (by rw [i32_lt, e6, nI_toInt (by omega)]; omega) (hE f n k (by omega) (by omega) _)
end LWL
