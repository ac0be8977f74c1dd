/-! ===== the law's own two readers: they catch ===== -/
section PZL
variable {G : pz_G} {C : pz_C} {cc : ByteArray} {nL : Nat} {own : String} {pc pc' : Nat} {lv lv' : List (Nat × Value)} {st : List Value} {f : pz_H} {n k : Nat} {Q : State → Prop}
variable {y : MethodName} {cy : ByteArray} {mL idx np fr lo mc ms ci b fr0 lo0 mc0 ms0 : Nat} {rt rt0 : Option FieldType} {As stk : List Value} {v : Option Value} {f' : pz_H} {ro : Option Int32}
theorem pz_callX (hC : pz_OK G C cc nL own) (hK : pz_K C rt0 fr0 lo0 mc0 ms0) (d : pz_d cc pc 3 pc' (.invokevirtual idx)) (hy : pz_y y cy mL rt np) (hyv : pz_yv y ci) (hlk : Cond.methodLink own idx y ∈ lw_tbl)
    (hM : vx_Met C.2.1 y [.code y cy mL rt] { frames := fr, cells := mc, slots := ms, locals := lo } (pz_Pc G (.ref b :: As) f) (xQ G f ro) (xX G f ro) mc ms (pz_A G) ∧ pz_is f b ci = some ()) (hn : As.length = np) (hst : stk = As.reverse ++ .ref b :: st) (hW : (st.map fun v => v.category).sum ≤ 8) (hR : fr + 1 ≤ fr0 ∧ 8 + (mL + 11) + lo ≤ lo0) (hr : n + mc ≤ mc0 ∧ k + ms ≤ ms0)
    (x : ExceptionTableEntry) (htab : (pz_co C).exceptionTable.toList = [x]) (hcov : covers x pc = true) (hx0 : x.catchType ≠ 0) (hlink : Cond.classLink own x.catchType xE ∈ lw_tbl) (hXT : ∀ U, G.2.2.2.2.2 U → xT G.2.2.1 U)
    (kk : ∀ r, ro = some r → pz_W G C nL pc' lv (.int r :: st) f (n + mc) (k + ms) Q)
    (kx : ro = none → ∀ N q : Nat, pz_W G C nL x.handlerPc lv [.ref q] (f.1, f.2.1, N) (n + mc) (k + ms) Q) : pz_W G C nL pc lv stk f n k Q := by
  intro H locs ls hD hF hl
  obtain ⟨d1, rfl⟩ := d
  have hT := hC.2.2.2.2.2
  obtain ⟨hM, hb⟩ := hM
  obtain ⟨hin, hse, hc⟩ := hyv
  have hp : PreV (pz_s C) H y.cls b (pz_Pc G (.ref b :: As) f) As := ⟨pz_blind, pz_recv hD hT hb hc, fun U hU hW => ⟨rfl, hT.warm hW, by rw [hU]; exact hD⟩⟩
  have hroom : n + mc ≤ (pz_R C).cells ∧ k + ms ≤ (pz_R C).slots := by rw [hK.2]; exact hr
  have run := vx_runV (p := C.1) (l := C.2.1) (e := C.2.2.1) (R := pz_R C) (below := pz_bl C) (meth := pz_me C) (locs := locs) (cells := n) (slots := k) (nL := nL) (Ts := []) (g := F0 (pz_m C) pc ls stk) (rest := st) ⟨hC.1, hC.2.1, hC.2.2.1, hC.2.2.2.1, fun _ h => by cases h⟩ hM ⟨pz_cb hC hK hy hlk hR, hT.wd hin rfl _, hT.wd hse rfl _⟩ hp rfl hn hl.1 hst (lv_room hW) d1 hroom
  intro T hT0 X
  rcases run T hT0 X with ⟨v, st₀, t, T', L, h0, X', hL, e1, e2, ⟨r, hro, hv, hd⟩, gs⟩ | ⟨q, st₀, t, T', L, E, ce, h0, X', hL, e1, e2, ⟨rfl, hro, N, hd⟩, hce, hcv, hcl, st1⟩
  · cases hv
    obtain ⟨t2, a1, b1⟩ := kk r hro T'.heap (locs ++ L) ls (by rw [e1]; exact hd) (fun q hq => by
      rcases List.mem_append.mp hq with h | h
      · exact hF q h
      · exact hL q h) hl T' rfl X'
    exact ⟨t2, gs t2 a1, b1⟩
  · have K := vx_catch (Q := Q) (ls := ls) (rest := st) (pc := pc) (own := own) (name := xE) hC.2.2.2.1 [] x [] htab (fun z hz => nomatch hz) hcov hx0 (hT.wd hlink rfl _) (va_Nw.use rfl (hXT _ hT.2.2.2.2.1).2.2.2.2.2.2) (by rw [e1]; exact hce) hcv hcl (kx hro N q T'.heap (locs ++ L) ls (by rw [e1]; exact hd) (fun q hq => by
      rcases List.mem_append.mp hq with h | h
      · exact hF q h
      · exact hL q h) hl)
    obtain ⟨t2, a1, b1⟩ := K T' rfl X'
    exact ⟨t2, st1.trans a1, b1⟩
theorem pz_enterW {l : Launch} {hh : List (Nat × Nat × Nat × Nat)} {ret : Option FieldType} {Qc : Array Value → State → Outcome → State → Prop} (hy : plainName y.cls = true) (hlen : (lg_sl As).length ≤ mL)
    (body : ∀ C : pz_C, C.2.1 = l → pz_OK G C cc mL y.cls → pz_K C ret fr lo mc ms → (pz_co C).exceptionTable.toList = tableOf hh → pz_W G C mL 0 (lv_args 0 As) [] f 0 0 (MQ (pz_bl C) Qc (pz_as C) (pz_s C) mc ms (pz_A G))) : Met l y [.codeWith y cc mL ret hh] { frames := fr, cells := mc, slots := ms, locals := lo } (pz_Pc G As f) Qc mc ms (pz_A G) := by
  refine va_MetW (cc := cc) (maxL := mL) (ret := ret) (hh := hh) hy rfl ?_
  intro p e s m args below meth c s₁ B hml hv
  obtain ⟨rfl, hT, hD⟩ := hv
  have htab := vx_table (x := y) B (atoms_spec B.pre _ List.mem_cons_self)
  rw [lg_entry_eq]
  exact body (p, l, e, { frames := fr, cells := mc, slots := ms, locals := lo }, s, m, As.toArray, below, meth, c) rfl ⟨B.exec, B.bytes, hml, findClass_of_methodNamed B.named, B.notSynchronized, hT⟩ ⟨B.returns, rfl⟩ htab s.heap [] _ hD (fun _ h => by cases h) (lv_entry As hlen)
theorem pz_iretW {x : Int32} {Qc : Array Value → State → Outcome → State → Prop} (hC : pz_OK G C cc nL own) (hK : pz_K C (some .int) fr0 lo0 mc ms) (d : pz_d cc pc 1 pc' .ireturn) (hn : n ≤ mc) (hk : k ≤ ms) (hq : ∀ t : State, pz_D G f t.heap → Qc (pz_as C) (pz_s C) (.returned (some (.int x))) t) : pz_W G C nL pc lv [.int x] f n k (MQ (pz_bl C) Qc (pz_as C) (pz_s C) mc ms (pz_A G)) := by
  refine pz_widen hn hk ?_
  intro H locs ls hD hF hl
  exact W.iret hC.1 hC.2.1 hK.1 (fun t ht hW => hq t (by rw [ht]; exact hD)) hF d.1 (hlocks := hC.2.2.2.2.1)
/-- what the law's reader answers, what the heap holds then -/
def xP (f : pz_H) (ro : Option Int32) (o : Nat) (v : Int32) (f' : pz_H) : Prop := (∃ r, ro = some r ∧ pz_tL f o 1 0 r.toInt64 = some f' ∧ v = 0) ∨ (ro = none ∧ v = 1 ∧ ∃ N, f' = (f.1, f.2.1, N))
def xL (G : pz_G) (f : pz_H) (ro : Option Int32) (o : Nat) : Array Value → State → Outcome → State → Prop := fun _ _ out t => ∃ v f', out = .returned (some (.int v)) ∧ xP f ro o v f' ∧ pz_D G f' t.heap
theorem mL_span {l : Launch} {a0 o : Nat} {p1 p2 : Int32} (hlt : l.stackTraces = false) (hXT : ∀ U, G.2.2.2.2.2 U → xT G.2.2.1 U) (hf : fnX9_span f a0 p1 p2 = some ro) (ho : ∀ x, ∃ f', pz_tL f o 1 0 x = some f') :
    Met l yL_span [.codeWith yL_span cL_span 5 (some .int) [(0, 10, 13, 13)]] { frames := 7, cells := 1, slots := 6, locals := 130 } (pz_Pc G [.ref a0, .int p1, .int p2, .ref o] f) (xL G f ro o) 1 6 (pz_A G) := by
  refine pz_enterW (by decide +kernel) (Nat.le_of_ble_eq_true rfl) (fun C hl hC hK htab => ?_)
  subst hl
  refine pz_sub (lv' := [(0, .ref a0), (1, .int p1), (2, .int p2), (3, .ref o)]) [0, 1, 2, 3] rfl ?_
  refine pz_aload_n hC dL_span_0 3 rfl ?_
  refine pz_iconst (v := (0 : Int32)) hC dL_span_1 (by decide) ?_
  refine pz_aload_n hC dL_span_2 0 rfl ?_
  refine pz_iload_n hC dL_span_3 1 rfl ?_
  refine pz_iload_n hC dL_span_4 2 rfl ?_
  refine pz_callX (As := [.int p1, .int p2]) (ro := ro) hC hK dL_span_5 py_X9_span pv_X9_span (List.mem_of_getElem? (i := 916) (by decide +kernel)) (mX9_span hlt hXT hf) rfl rfl (Nat.le_of_ble_eq_true rfl) ⟨by decide, by decide⟩ ⟨by decide, by decide⟩ ⟨0, 10, 13, 13⟩ htab (by decide) (by decide) (List.mem_of_getElem? (i := 915) (by decide +kernel)) hXT (fun r hr => ?_) (fun hr N q => ?_)
  · refine pz_i2l hC dL_span_8 ?_
    obtain ⟨f', hf'⟩ := ho r.toInt64
    refine pz_last (g := fun f1 => some f1) (r := f') hC dL_span_9 (by rw [hf']; rfl) (fun f1 h1 => ?_)
    cases h1
    refine pz_goto hC dL_span_10 ?_
    refine pz_iconst (v := (0 : Int32)) hC dL_span_17 (by decide) ?_
    exact pz_iretW hC hK dL_span_18 (by decide) (by decide) (fun t hd => ⟨0, f', rfl, Or.inl ⟨r, hr, hf', rfl⟩, hd⟩)
  · refine pz_astore (lv' := [(4, .ref q), (0, .ref a0), (1, .int p1), (2, .int p2), (3, .ref o)]) hC dL_span_13 (by decide) rfl ?_
    refine pz_iconst (v := (1 : Int32)) hC dL_span_15 (by decide) ?_
    exact pz_iretW hC hK dL_span_16 (by decide) (by decide) (fun t hd => ⟨1, _, rfl, Or.inr ⟨hr, rfl, N, rfl⟩, hd⟩)
theorem mL_spouse {l : Launch} {a0 o : Nat} {p1 p2 : Int32} (hlt : l.stackTraces = false) (hXT : ∀ U, G.2.2.2.2.2 U → xT G.2.2.1 U) (hf : fnX9_spouse f a0 p1 p2 = some ro) (ho : ∀ x, ∃ f', pz_tL f o 1 0 x = some f') :
    Met l yL_spouse [.codeWith yL_spouse cL_spouse 5 (some .int) [(0, 10, 13, 13)]] { frames := 7, cells := 1, slots := 6, locals := 130 } (pz_Pc G [.ref a0, .int p1, .int p2, .ref o] f) (xL G f ro o) 1 6 (pz_A G) := by
  refine pz_enterW (by decide +kernel) (Nat.le_of_ble_eq_true rfl) (fun C hl hC hK htab => ?_)
  subst hl
  refine pz_sub (lv' := [(0, .ref a0), (1, .int p1), (2, .int p2), (3, .ref o)]) [0, 1, 2, 3] rfl ?_
  refine pz_aload_n hC dL_spouse_0 3 rfl ?_
  refine pz_iconst (v := (0 : Int32)) hC dL_spouse_1 (by decide) ?_
  refine pz_aload_n hC dL_spouse_2 0 rfl ?_
  refine pz_iload_n hC dL_spouse_3 1 rfl ?_
  refine pz_iload_n hC dL_spouse_4 2 rfl ?_
  refine pz_callX (As := [.int p1, .int p2]) (ro := ro) hC hK dL_spouse_5 py_X9_spouse pv_X9_spouse (List.mem_of_getElem? (i := 989) (by decide +kernel)) (mX9_spouse hlt hXT hf) rfl rfl (Nat.le_of_ble_eq_true rfl) ⟨by decide, by decide⟩ ⟨by decide, by decide⟩ ⟨0, 10, 13, 13⟩ htab (by decide) (by decide) (List.mem_of_getElem? (i := 915) (by decide +kernel)) hXT (fun r hr => ?_) (fun hr N q => ?_)
  · refine pz_i2l hC dL_spouse_8 ?_
    obtain ⟨f', hf'⟩ := ho r.toInt64
    refine pz_last (g := fun f1 => some f1) (r := f') hC dL_spouse_9 (by rw [hf']; rfl) (fun f1 h1 => ?_)
    cases h1
    refine pz_goto hC dL_spouse_10 ?_
    refine pz_iconst (v := (0 : Int32)) hC dL_spouse_17 (by decide) ?_
    exact pz_iretW hC hK dL_spouse_18 (by decide) (by decide) (fun t hd => ⟨0, f', rfl, Or.inl ⟨r, hr, hf', rfl⟩, hd⟩)
  · refine pz_astore (lv' := [(4, .ref q), (0, .ref a0), (1, .int p1), (2, .int p2), (3, .ref o)]) hC dL_spouse_13 (by decide) rfl ?_
    refine pz_iconst (v := (1 : Int32)) hC dL_spouse_15 (by decide) ?_
    exact pz_iretW hC hK dL_spouse_16 (by decide) (by decide) (fun t hd => ⟨1, _, rfl, Or.inr ⟨hr, rfl, N, rfl⟩, hd⟩)
/-- the law calls such a reader -/
theorem pz_callL {hh : List (Nat × Nat × Nat × Nat)} {o : Nat} (hC : pz_OK G C cc nL own) (hK : pz_K C rt0 fr0 lo0 mc0 ms0) (d : pz_d cc pc 3 pc' (.invokestatic idx)) (hcode : Cond.codeWith y cy mL rt hh ∈ lw_tbl) (hini : Cond.initialized y.cls ∈ lw_tbl) (hyn : y.cls ≠ "java/lang/invoke/MethodHandle" ∧ y.cls ≠ "java/lang/invoke/VarHandle") (hpd : (parseMethodDescriptor y.desc).map (fun d => d.parameters.length) = some np) (hlk : Cond.methodLink own idx y ∈ lw_tbl) (hst0 : Cond.static y ∈ lw_tbl)
    (hM : Met C.2.1 y [.codeWith y cy mL rt hh] { frames := fr, cells := mc, slots := ms, locals := lo } (pz_Pc G As f) (xL G f ro o) mc ms (pz_A G)) (hn : As.length = np) (hst : stk = As.reverse ++ st) (hW : (st.map fun v => v.category).sum ≤ 8) (hR : fr + 1 ≤ fr0 ∧ 8 + (mL + 11) + lo ≤ lo0) (hr : n + mc ≤ mc0 ∧ k + ms ≤ ms0)
    (kk : ∀ v f', xP f ro o v f' → pz_W G C nL pc' lv (.int v :: st) f' (n + mc) (k + ms) Q) : pz_W G C nL pc lv stk f n k Q := by
  intro H locs ls hD hF hl
  obtain ⟨d1, rfl⟩ := d
  have hT := hC.2.2.2.2.2
  have hp : PreS (pz_s C) H (pz_Pc G As f) As := ⟨pz_blind, fun U hU hW => ⟨rfl, hT.warm hW, by rw [hU]; exact hD⟩⟩
  have hroom : n + mc ≤ (pz_R C).cells ∧ k + ms ≤ (pz_R C).slots := by rw [hK.2]; exact hr
  have cw : vx_CSW (pz_R C) (pz_s C) (pz_as C) own idx y cy mL rt hh [.codeWith y cy mL rt hh] { frames := fr, cells := mc, slots := ms, locals := lo } mc ms np := by
    refine ⟨⟨rfl, rfl, by rw [hK.2]; exact hR.1, by rw [hK.2]; exact hR.2, fun w hw a' U hW => ?_, List.mem_singleton.mpr rfl⟩, hT.wd hcode rfl _, hT.wd hini rfl _, hyn, fun sig h => ?_, hT.wd hlk rfl _, hT.wd hst0 rfl _⟩
    · rw [List.mem_singleton.mp hw]; exact hT.ww hW hcode rfl _
    · rw [h] at hpd
      exact (Option.some.inj hpd).symm
  have run := vx_runSW (p := C.1) (l := C.2.1) (e := C.2.2.1) (R := pz_R C) (below := pz_bl C) (meth := pz_me C) (locs := locs) (cells := n) (slots := k) (nL := nL) (Ts := []) (g := F0 (pz_m C) pc ls stk) (rest := st) ⟨hC.1, hC.2.1, hC.2.2.1, hC.2.2.2.1, fun _ h => by cases h⟩ hM cw hp rfl hn hl.1 hst (lv_room hW) d1 hroom
  intro T hT0 X
  obtain ⟨v1, st0, t, T', L, h0, X', hL, e1, e2, ⟨v, f', hv, hx, hd⟩, gs⟩ := run T hT0 X
  cases hv
  obtain ⟨t2, a1, b1⟩ := kk v f' hx T'.heap (locs ++ L) ls (by rw [e1]; exact hd) (fun q hq => by
    rcases List.mem_append.mp hq with h | h
    · exact hF q h
    · exact hL q h) hl T' rfl X'
  exact ⟨t2, gs t2 a1, b1⟩
end PZL
