/-! ===== contracts: what a method answers, what the heap holds then ===== -/
def pz_Q (G : pz_G) (C : pz_C) (v : Option Value) (f' : pz_H) (mc ms : Nat) : State → Prop := MQ (pz_bl C) (fun _ _ o t => o = .returned v ∧ pz_D G f' t.heap) (pz_as C) (pz_s C) mc ms (pz_A G)
def pz_K (C : pz_C) (ret : Option FieldType) (fr lo mc ms : Nat) : Prop := (pz_me C).sig.returnType = ret ∧ pz_R C = { frames := fr, cells := mc, slots := ms, locals := lo }
def pz_Pc (G : pz_G) (As : List Value) (f : pz_H) : Array Value → State → Prop := va_Pc As (fun U => pz_T G U ∧ pz_D G f U.heap)
def pz_Met (l : Launch) (G : pz_G) (y : MethodName) (cc : ByteArray) (mL : Nat) (ret : Option FieldType) (fr lo mc ms : Nat) (As : List Value) (f : pz_H) (v : Option Value) (f' : pz_H) : Prop :=
  Met l y [.code y cc mL ret] { frames := fr, cells := mc, slots := ms, locals := lo } (pz_Pc G As f) (fun _ _ o t => o = .returned v ∧ pz_D G f' t.heap) mc ms (pz_A G)
theorem pz_enter {l : Launch} {G : pz_G} {y : MethodName} {cc : ByteArray} {mL : Nat} {ret : Option FieldType} {fr lo mc ms : Nat} {As : List Value} {f : pz_H} {v : Option Value} {f' : pz_H} (hy : plainName y.cls = true) (hlen : (lg_sl As).length ≤ mL)
    (body : ∀ C : pz_C, C.2.1 = l → pz_OK G C cc mL y.cls → pz_K C ret fr lo mc ms → (pz_me C).name = y.name → pz_W G C mL 0 (lv_args 0 As) [] f 0 0 (pz_Q G C v f' mc ms)) : pz_Met l G y cc mL ret fr lo mc ms As f v f' := by
  refine Met.ofW (cc := cc) (maxL := mL) (ret := ret) hy rfl ?_
  intro p e s m args below meth c s₁ B hml hv
  obtain ⟨rfl, hT, hD⟩ := hv
  rw [lg_entry_eq]
  exact body (p, l, e, { frames := fr, cells := mc, slots := ms, locals := lo }, s, m, As.toArray, below, meth, c) rfl ⟨B.exec, B.bytes, hml, findClass_of_methodNamed B.named, B.notSynchronized, hT⟩ ⟨B.returns, rfl⟩ (name_of_methodNamed B.named B.method).1 s.heap [] _ hD (fun _ h => by cases h) (lv_entry As hlen)
theorem pz_blind {G : pz_G} {As : List Value} {f : pz_H} : FrameBlind (pz_Pc G As f) := fun a U g mk h => ⟨h.1, h.2.1.same rfl, h.2.2⟩
/-- a method's words -/
def pz_y (y : MethodName) (cy : ByteArray) (mL : Nat) (rt : Option FieldType) (np : Nat) : Prop := Cond.code y cy mL rt ∈ lw_tbl ∧ Cond.initialized y.cls ∈ lw_tbl ∧ (y.cls ≠ "java/lang/invoke/MethodHandle" ∧ y.cls ≠ "java/lang/invoke/VarHandle") ∧ (parseMethodDescriptor y.desc).map (fun d => d.parameters.length) = some np
def pz_rc (ci : Nat) (Cn : String) : Prop := (∃ (T : u_T) (N : Nat), vwCl[ci]? = some (Cn, T, N)) ∨ (100 ≤ ci ∧ pz_sC ci = Cn)
def pz_yv (y : MethodName) (ci : Nat) : Prop := Cond.instanceMethod y ∈ lw_tbl ∧ Cond.selects y.cls y y ∈ lw_tbl ∧ pz_rc ci y.cls
theorem pz_recv {G : pz_G} {f : pz_H} {H : Heap} {U : State} {b ci : Nat} {Cn : String} (hD : pz_D G f H) (hT : pz_T G U) (hb : pz_is f b ci = some ()) (hr : pz_rc ci Cn) : ∃ cell : Cell, H[b]? = some cell ∧ cell.vm.isStatics = false ∧ U.vm.findClass Cn = some cell.cls := by
  obtain ⟨fs, hfs⟩ := pz_is_of hb
  rcases hr with ⟨T, N, hc⟩ | ⟨hc, rfl⟩
  · exact va_recv (q0 := 0) hT.2.1 (pz_D.one (hD.dyn hT hfs (pz_ci hc)).2) hc rfl
  · by_cases ha : b < pz_z G
    · have h1 := hT.2.2.1.1 b _ ha (by rw [← hD.2.2.2.1 b ha]; exact hfs)
      obtain ⟨-, ⟨cell, g1, g2, g3, g4⟩, -⟩ := h1
      exact ⟨cell, by rw [hD.2.2.2.2.2 b ha]; exact g1, g2, g3⟩
    · exact absurd (hD.2.2.2.2.1 b _ (by omega) hfs).1 (by show ¬ (ci < 100); omega)
def pz_yi (y : MethodName) : Prop := Cond.instanceMethod y ∈ lw_tbl ∧ y.name = "<init>"
def pz_ys (y : MethodName) : Prop := Cond.static y ∈ lw_tbl
def pz_lk (own : String) (idx : Nat) (y : MethodName) : Prop := Cond.methodLink own idx y ∈ lw_tbl ∨ ∃ host, Cond.methodLinkNest own idx y host ∈ lw_tbl
section PZC
variable {G : pz_G} {C : pz_C} {cc : ByteArray} {nL : Nat} {own : String} {pc pc' : Nat} {lv lv' : List (Nat × Value)} {st : List Value} {f : pz_H} {n k : Nat} {Q : State → Prop}
variable {y : MethodName} {cy : ByteArray} {mL idx np fr lo mc ms ci b fr0 lo0 mc0 ms0 : Nat} {rt rt0 : Option FieldType} {As stk : List Value} {v : Option Value} {f' : pz_H}
theorem pz_cb (hC : pz_OK G C cc nL own) (hK : pz_K C rt0 fr0 lo0 mc0 ms0) (hy : pz_y y cy mL rt np) (hlk : Cond.methodLink own idx y ∈ lw_tbl) (hR : fr + 1 ≤ fr0 ∧ 8 + (mL + 11) + lo ≤ lo0) : CallB (pz_R C) (pz_s C) (pz_as C) own idx y cy mL rt [.code y cy mL rt] { frames := fr, cells := mc, slots := ms, locals := lo } mc ms np := by
  have hT := hC.2.2.2.2.2
  refine ⟨rfl, rfl, by rw [hK.2]; exact hR.1, by rw [hK.2]; exact hR.2, fun w hw a' U hW => ?_, List.mem_singleton.mpr rfl, hT.wd hy.1 rfl _, hT.wd hy.2.1 rfl _, hy.2.2.1, fun sig h => ?_, hT.wd hlk rfl _⟩
  · rw [List.mem_singleton.mp hw]; exact hT.ww hW hy.1 rfl _
  · have h2 := hy.2.2.2
    rw [h] at h2
    exact (Option.some.inj h2).symm
theorem pz_cn {host : String} (hC : pz_OK G C cc nL own) (hK : pz_K C rt0 fr0 lo0 mc0 ms0) (hy : pz_y y cy mL rt np) (hlk : Cond.methodLinkNest own idx y host ∈ lw_tbl) (hR : fr + 1 ≤ fr0 ∧ 8 + (mL + 11) + lo ≤ lo0) : va_CN (pz_R C) (pz_s C) (pz_as C) own idx y host cy mL rt [.code y cy mL rt] { frames := fr, cells := mc, slots := ms, locals := lo } mc ms np := by
  have hT := hC.2.2.2.2.2
  refine ⟨⟨rfl, rfl, by rw [hK.2]; exact hR.1, by rw [hK.2]; exact hR.2, fun w hw a' U hW => ?_, List.mem_singleton.mpr rfl⟩, hT.wd hy.1 rfl _, hT.wd hy.2.1 rfl _, hy.2.2.1, fun sig h => ?_, hT.wd hlk rfl _⟩
  · rw [List.mem_singleton.mp hw]; exact hT.ww hW hy.1 rfl _
  · have h2 := hy.2.2.2
    rw [h] at h2
    exact (Option.some.inj h2).symm
theorem pz_behind {H : Heap} {locs : List Loc} {ls : Array Slot} (hr : va_Run C.1 C.2.1 C.2.2.1 (pz_R C) (pz_s C) (pz_m C) (pz_as C) (pz_bl C) (pz_me C) (pz_co C) H locs n k mc ms (F0 (pz_m C) pc ls stk) st (fun _ o t => o = .returned v ∧ pz_D G f' t.heap) (pz_A G)) (hF : ∀ q ∈ locs, pz_A G q.base) (hl : lv_has ls nL lv) (kk : pz_W G C nL (pc + 3) lv (v.toList ++ st) f' (n + mc) (k + ms) Q) : W C.1 C.2.1 C.2.2.1 (pz_R C) (pz_s C) (pz_m C) (pz_as C) (pz_bl C) (pz_me C) (pz_co C) H locs n k Q (F0 (pz_m C) pc ls stk) := by
  intro T hT X
  obtain ⟨v1, st0, t, T', L, h0, X', hL, e1, e2, ⟨hv, hd⟩, gs⟩ := hr T hT X
  have hv2 : v1 = v := Outcome.returned.inj hv
  subst hv2
  obtain ⟨t2, a1, b1⟩ := kk T'.heap (locs ++ L) ls (by rw [e1]; exact hd) (fun q hq => by
    rcases List.mem_append.mp hq with h | h
    · exact hF q h
    · exact hL q h) hl T' rfl X'
  exact ⟨t2, gs t2 a1, b1⟩
theorem pz_callV (hC : pz_OK G C cc nL own) (hK : pz_K C rt0 fr0 lo0 mc0 ms0) (d : pz_d cc pc 3 pc' (.invokevirtual idx)) (hy : pz_y y cy mL rt np) (hyv : pz_yv y ci) (hlk : pz_lk own idx y) (hM : pz_Met C.2.1 G y cy mL rt fr lo mc ms (.ref b :: As) f v f') (hb : pz_is f b ci = some ()) (hn : As.length = np) (hst : stk = As.reverse ++ .ref b :: st) (hW : (st.map fun v => v.category).sum ≤ 8) (hR : fr + 1 ≤ fr0 ∧ 8 + (mL + 11) + lo ≤ lo0) (hr : n + mc ≤ mc0 ∧ k + ms ≤ ms0) (kk : pz_W G C nL pc' lv (v.toList ++ st) f' (n + mc) (k + ms) Q) : pz_W G C nL pc lv stk f n k Q := by
  intro H locs ls hD hF hl
  obtain ⟨d1, rfl⟩ := d
  have hT := hC.2.2.2.2.2
  obtain ⟨hin, hse, hc⟩ := hyv
  have hp : PreV (pz_s C) H y.cls b (pz_Pc G (.ref b :: As) f) As := ⟨pz_blind, pz_recv hD hT hb hc, fun U hU hW => ⟨rfl, hT.warm hW, by rw [hU]; exact hD⟩⟩
  have hroom : n + mc ≤ (pz_R C).cells ∧ k + ms ≤ (pz_R C).slots := by rw [hK.2]; exact hr
  rcases hlk with hlk | ⟨host, hlk⟩
  · exact pz_behind (va_runV (nL := nL) (Ts := []) ⟨hC.1, hC.2.1, hC.2.2.1, hC.2.2.2.1, fun _ h => by cases h⟩ hM ⟨pz_cb hC hK hy hlk hR, hT.wd hin rfl _, hT.wd hse rfl _⟩ hp rfl hn hl.1 hst (lv_room hW) d1 hroom) hF hl kk
  · exact pz_behind (va_runVN (nL := nL) (Ts := []) ⟨hC.1, hC.2.1, hC.2.2.1, hC.2.2.2.1, fun _ h => by cases h⟩ hM ⟨pz_cn hC hK hy hlk hR, hT.wd hin rfl _, hT.wd hse rfl _⟩ hp rfl hn hl.1 hst (lv_room hW) d1 hroom) hF hl kk
theorem pz_callS (hC : pz_OK G C cc nL own) (hK : pz_K C rt0 fr0 lo0 mc0 ms0) (d : pz_d cc pc 3 pc' (.invokestatic idx)) (hy : pz_y y cy mL rt np) (hys : pz_ys y) (hlk : pz_lk own idx y) (hM : pz_Met C.2.1 G y cy mL rt fr lo mc ms As f v f') (hn : As.length = np) (hst : stk = As.reverse ++ st) (hW : (st.map fun v => v.category).sum ≤ 8) (hR : fr + 1 ≤ fr0 ∧ 8 + (mL + 11) + lo ≤ lo0) (hr : n + mc ≤ mc0 ∧ k + ms ≤ ms0) (kk : pz_W G C nL pc' lv (v.toList ++ st) f' (n + mc) (k + ms) Q) : pz_W G C nL pc lv stk f n k Q := by
  intro H locs ls hD hF hl
  obtain ⟨d1, rfl⟩ := d
  have hT := hC.2.2.2.2.2
  have hp : PreS (pz_s C) H (pz_Pc G As f) As := ⟨pz_blind, fun U hU hW => ⟨rfl, hT.warm hW, by rw [hU]; exact hD⟩⟩
  have hroom : n + mc ≤ (pz_R C).cells ∧ k + ms ≤ (pz_R C).slots := by rw [hK.2]; exact hr
  rcases hlk with hlk | ⟨host, hlk⟩
  · exact pz_behind (va_runS (nL := nL) (Ts := []) ⟨hC.1, hC.2.1, hC.2.2.1, hC.2.2.2.1, fun _ h => by cases h⟩ hM ⟨pz_cb hC hK hy hlk hR, hT.wd hys rfl _⟩ hp rfl hn hl.1 hst (lv_room hW) d1 hroom) hF hl kk
  · exact pz_behind (va_runSN (nL := nL) (Ts := []) ⟨hC.1, hC.2.1, hC.2.2.1, hC.2.2.2.1, fun _ h => by cases h⟩ hM ⟨pz_cn hC hK hy hlk hR, hT.wd hys rfl _, trivial⟩ hp rfl hn hl.1 hst (lv_room hW) d1 hroom) hF hl kk
theorem pz_callI (hC : pz_OK G C cc nL own) (hK : pz_K C rt0 fr0 lo0 mc0 ms0) (d : pz_d cc pc 3 pc' (.invokespecial idx)) (hy : pz_y y cy mL none np) (hyi : pz_yi y) (hlk : pz_lk own idx y) (hM : pz_Met C.2.1 G y cy mL none fr lo mc ms (.ref b :: As) f v f') (hn : As.length = np) (hst : stk = As.reverse ++ .ref b :: st) (hW : (st.map fun v => v.category).sum ≤ 8) (hR : fr + 1 ≤ fr0 ∧ 8 + (mL + 11) + lo ≤ lo0) (hr : n + mc ≤ mc0 ∧ k + ms ≤ ms0) (kk : pz_W G C nL pc' lv (v.toList ++ st) f' (n + mc) (k + ms) Q) : pz_W G C nL pc lv stk f n k Q := by
  intro H locs ls hD hF hl
  obtain ⟨d1, rfl⟩ := d
  have hT := hC.2.2.2.2.2
  have hp : PreS (pz_s C) H (pz_Pc G (.ref b :: As) f) (.ref b :: As) := ⟨pz_blind, fun U hU hW => ⟨rfl, hT.warm hW, by rw [hU]; exact hD⟩⟩
  have hroom : n + mc ≤ (pz_R C).cells ∧ k + ms ≤ (pz_R C).slots := by rw [hK.2]; exact hr
  rcases hlk with hlk | ⟨host, hlk⟩
  · exact pz_behind (va_runI (nL := nL) (Ts := []) ⟨hC.1, hC.2.1, hC.2.2.1, hC.2.2.2.1, fun _ h => by cases h⟩ hM ⟨pz_cb hC hK hy hlk hR, hyi.2, hT.wd hyi.1 rfl _⟩ hp rfl hn hl.1 hst (lv_room hW) d1 hroom) hF hl kk
  · exact pz_behind (va_runIN (nL := nL) (Ts := []) ⟨hC.1, hC.2.1, hC.2.2.1, hC.2.2.2.1, fun _ h => by cases h⟩ hM ⟨pz_cn hC hK hy hlk hR, hyi.2, hT.wd hyi.1 rfl _⟩ hp rfl hn hl.1 hst (lv_room hW) d1 hroom) hF hl kk
theorem pz_Vi {α : Type} {F : Option (Int32)} {g : Int32 → Option α} {r : α} (hC : pz_OK G C cc nL own) (hK : pz_K C rt0 fr0 lo0 mc0 ms0) (d : pz_d cc pc 3 pc' (.invokevirtual idx)) (hy : pz_y y cy mL rt np) (hyv : pz_yv y ci) (hlk : pz_lk own idx y) (hf : F.bind g = some r) (hM : ∀ x, F = some x → pz_Met C.2.1 G y cy mL rt fr lo 0 0 (.ref b :: As) f (some (.int x)) (f) ∧ pz_is f b ci = some ()) (hn : As.length = np) (hst : stk = As.reverse ++ .ref b :: st) (hW : (st.map fun v => v.category).sum ≤ 8) (hR : fr + 1 ≤ fr0 ∧ 8 + (mL + 11) + lo ≤ lo0) (hr : n ≤ mc0 ∧ k ≤ ms0) (kk : ∀ x, g x = some r → pz_W G C nL pc' lv (.int x :: st) (f) n k Q) : pz_W G C nL pc lv stk f n k Q := by
  obtain ⟨x, h1, h2⟩ := pz_bd hf
  exact pz_callV hC hK d hy hyv hlk (hM x h1).1 (hM x h1).2 hn hst hW hR hr (kk x h2)
theorem pz_Si {α : Type} {F : Option (Int32)} {g : Int32 → Option α} {r : α} (hC : pz_OK G C cc nL own) (hK : pz_K C rt0 fr0 lo0 mc0 ms0) (d : pz_d cc pc 3 pc' (.invokestatic idx)) (hy : pz_y y cy mL rt np) (hys : pz_ys y) (hlk : pz_lk own idx y) (hf : F.bind g = some r) (hM : ∀ x, F = some x → pz_Met C.2.1 G y cy mL rt fr lo 0 0 As f (some (.int x)) (f)) (hn : As.length = np) (hst : stk = As.reverse ++ st) (hW : (st.map fun v => v.category).sum ≤ 8) (hR : fr + 1 ≤ fr0 ∧ 8 + (mL + 11) + lo ≤ lo0) (hr : n ≤ mc0 ∧ k ≤ ms0) (kk : ∀ x, g x = some r → pz_W G C nL pc' lv (.int x :: st) (f) n k Q) : pz_W G C nL pc lv stk f n k Q := by
  obtain ⟨x, h1, h2⟩ := pz_bd hf
  exact pz_callS hC hK d hy hys hlk (hM x h1) hn hst hW hR hr (kk x h2)
theorem pz_Vl {α : Type} {F : Option (Int64)} {g : Int64 → Option α} {r : α} (hC : pz_OK G C cc nL own) (hK : pz_K C rt0 fr0 lo0 mc0 ms0) (d : pz_d cc pc 3 pc' (.invokevirtual idx)) (hy : pz_y y cy mL rt np) (hyv : pz_yv y ci) (hlk : pz_lk own idx y) (hf : F.bind g = some r) (hM : ∀ x, F = some x → pz_Met C.2.1 G y cy mL rt fr lo 0 0 (.ref b :: As) f (some (.long x)) (f) ∧ pz_is f b ci = some ()) (hn : As.length = np) (hst : stk = As.reverse ++ .ref b :: st) (hW : (st.map fun v => v.category).sum ≤ 8) (hR : fr + 1 ≤ fr0 ∧ 8 + (mL + 11) + lo ≤ lo0) (hr : n ≤ mc0 ∧ k ≤ ms0) (kk : ∀ x, g x = some r → pz_W G C nL pc' lv (.long x :: st) (f) n k Q) : pz_W G C nL pc lv stk f n k Q := by
  obtain ⟨x, h1, h2⟩ := pz_bd hf
  exact pz_callV hC hK d hy hyv hlk (hM x h1).1 (hM x h1).2 hn hst hW hR hr (kk x h2)
theorem pz_Sl {α : Type} {F : Option (Int64)} {g : Int64 → Option α} {r : α} (hC : pz_OK G C cc nL own) (hK : pz_K C rt0 fr0 lo0 mc0 ms0) (d : pz_d cc pc 3 pc' (.invokestatic idx)) (hy : pz_y y cy mL rt np) (hys : pz_ys y) (hlk : pz_lk own idx y) (hf : F.bind g = some r) (hM : ∀ x, F = some x → pz_Met C.2.1 G y cy mL rt fr lo 0 0 As f (some (.long x)) (f)) (hn : As.length = np) (hst : stk = As.reverse ++ st) (hW : (st.map fun v => v.category).sum ≤ 8) (hR : fr + 1 ≤ fr0 ∧ 8 + (mL + 11) + lo ≤ lo0) (hr : n ≤ mc0 ∧ k ≤ ms0) (kk : ∀ x, g x = some r → pz_W G C nL pc' lv (.long x :: st) (f) n k Q) : pz_W G C nL pc lv stk f n k Q := by
  obtain ⟨x, h1, h2⟩ := pz_bd hf
  exact pz_callS hC hK d hy hys hlk (hM x h1) hn hst hW hR hr (kk x h2)
theorem pz_Vr {α : Type} {F : Option (Nat)} {g : Nat → Option α} {r : α} (hC : pz_OK G C cc nL own) (hK : pz_K C rt0 fr0 lo0 mc0 ms0) (d : pz_d cc pc 3 pc' (.invokevirtual idx)) (hy : pz_y y cy mL rt np) (hyv : pz_yv y ci) (hlk : pz_lk own idx y) (hf : F.bind g = some r) (hM : ∀ x, F = some x → pz_Met C.2.1 G y cy mL rt fr lo 0 0 (.ref b :: As) f (some (.ref x)) (f) ∧ pz_is f b ci = some ()) (hn : As.length = np) (hst : stk = As.reverse ++ .ref b :: st) (hW : (st.map fun v => v.category).sum ≤ 8) (hR : fr + 1 ≤ fr0 ∧ 8 + (mL + 11) + lo ≤ lo0) (hr : n ≤ mc0 ∧ k ≤ ms0) (kk : ∀ x, g x = some r → pz_W G C nL pc' lv (.ref x :: st) (f) n k Q) : pz_W G C nL pc lv stk f n k Q := by
  obtain ⟨x, h1, h2⟩ := pz_bd hf
  exact pz_callV hC hK d hy hyv hlk (hM x h1).1 (hM x h1).2 hn hst hW hR hr (kk x h2)
theorem pz_Sr {α : Type} {F : Option (Nat)} {g : Nat → Option α} {r : α} (hC : pz_OK G C cc nL own) (hK : pz_K C rt0 fr0 lo0 mc0 ms0) (d : pz_d cc pc 3 pc' (.invokestatic idx)) (hy : pz_y y cy mL rt np) (hys : pz_ys y) (hlk : pz_lk own idx y) (hf : F.bind g = some r) (hM : ∀ x, F = some x → pz_Met C.2.1 G y cy mL rt fr lo 0 0 As f (some (.ref x)) (f)) (hn : As.length = np) (hst : stk = As.reverse ++ st) (hW : (st.map fun v => v.category).sum ≤ 8) (hR : fr + 1 ≤ fr0 ∧ 8 + (mL + 11) + lo ≤ lo0) (hr : n ≤ mc0 ∧ k ≤ ms0) (kk : ∀ x, g x = some r → pz_W G C nL pc' lv (.ref x :: st) (f) n k Q) : pz_W G C nL pc lv stk f n k Q := by
  obtain ⟨x, h1, h2⟩ := pz_bd hf
  exact pz_callS hC hK d hy hys hlk (hM x h1) hn hst hW hR hr (kk x h2)
theorem pz_Viw {α : Type} {F : Option (Int32 × pz_H)} {g : Int32 × pz_H → Option α} {r : α} (hC : pz_OK G C cc nL own) (hK : pz_K C rt0 fr0 lo0 mc0 ms0) (d : pz_d cc pc 3 pc' (.invokevirtual idx)) (hy : pz_y y cy mL rt np) (hyv : pz_yv y ci) (hlk : pz_lk own idx y) (hf : F.bind g = some r) (hM : ∀ x, F = some x → pz_Met C.2.1 G y cy mL rt fr lo 0 0 (.ref b :: As) f (some (.int x.1)) (x.2) ∧ pz_is f b ci = some ()) (hn : As.length = np) (hst : stk = As.reverse ++ .ref b :: st) (hW : (st.map fun v => v.category).sum ≤ 8) (hR : fr + 1 ≤ fr0 ∧ 8 + (mL + 11) + lo ≤ lo0) (hr : n ≤ mc0 ∧ k ≤ ms0) (kk : ∀ x, g x = some r → pz_W G C nL pc' lv (.int x.1 :: st) (x.2) n k Q) : pz_W G C nL pc lv stk f n k Q := by
  obtain ⟨x, h1, h2⟩ := pz_bd hf
  exact pz_callV hC hK d hy hyv hlk (hM x h1).1 (hM x h1).2 hn hst hW hR hr (kk x h2)
theorem pz_Siw {α : Type} {F : Option (Int32 × pz_H)} {g : Int32 × pz_H → Option α} {r : α} (hC : pz_OK G C cc nL own) (hK : pz_K C rt0 fr0 lo0 mc0 ms0) (d : pz_d cc pc 3 pc' (.invokestatic idx)) (hy : pz_y y cy mL rt np) (hys : pz_ys y) (hlk : pz_lk own idx y) (hf : F.bind g = some r) (hM : ∀ x, F = some x → pz_Met C.2.1 G y cy mL rt fr lo 0 0 As f (some (.int x.1)) (x.2)) (hn : As.length = np) (hst : stk = As.reverse ++ st) (hW : (st.map fun v => v.category).sum ≤ 8) (hR : fr + 1 ≤ fr0 ∧ 8 + (mL + 11) + lo ≤ lo0) (hr : n ≤ mc0 ∧ k ≤ ms0) (kk : ∀ x, g x = some r → pz_W G C nL pc' lv (.int x.1 :: st) (x.2) n k Q) : pz_W G C nL pc lv stk f n k Q := by
  obtain ⟨x, h1, h2⟩ := pz_bd hf
  exact pz_callS hC hK d hy hys hlk (hM x h1) hn hst hW hR hr (kk x h2)
theorem pz_Vlw {α : Type} {F : Option (Int64 × pz_H)} {g : Int64 × pz_H → Option α} {r : α} (hC : pz_OK G C cc nL own) (hK : pz_K C rt0 fr0 lo0 mc0 ms0) (d : pz_d cc pc 3 pc' (.invokevirtual idx)) (hy : pz_y y cy mL rt np) (hyv : pz_yv y ci) (hlk : pz_lk own idx y) (hf : F.bind g = some r) (hM : ∀ x, F = some x → pz_Met C.2.1 G y cy mL rt fr lo 0 0 (.ref b :: As) f (some (.long x.1)) (x.2) ∧ pz_is f b ci = some ()) (hn : As.length = np) (hst : stk = As.reverse ++ .ref b :: st) (hW : (st.map fun v => v.category).sum ≤ 8) (hR : fr + 1 ≤ fr0 ∧ 8 + (mL + 11) + lo ≤ lo0) (hr : n ≤ mc0 ∧ k ≤ ms0) (kk : ∀ x, g x = some r → pz_W G C nL pc' lv (.long x.1 :: st) (x.2) n k Q) : pz_W G C nL pc lv stk f n k Q := by
  obtain ⟨x, h1, h2⟩ := pz_bd hf
  exact pz_callV hC hK d hy hyv hlk (hM x h1).1 (hM x h1).2 hn hst hW hR hr (kk x h2)
theorem pz_Slw {α : Type} {F : Option (Int64 × pz_H)} {g : Int64 × pz_H → Option α} {r : α} (hC : pz_OK G C cc nL own) (hK : pz_K C rt0 fr0 lo0 mc0 ms0) (d : pz_d cc pc 3 pc' (.invokestatic idx)) (hy : pz_y y cy mL rt np) (hys : pz_ys y) (hlk : pz_lk own idx y) (hf : F.bind g = some r) (hM : ∀ x, F = some x → pz_Met C.2.1 G y cy mL rt fr lo 0 0 As f (some (.long x.1)) (x.2)) (hn : As.length = np) (hst : stk = As.reverse ++ st) (hW : (st.map fun v => v.category).sum ≤ 8) (hR : fr + 1 ≤ fr0 ∧ 8 + (mL + 11) + lo ≤ lo0) (hr : n ≤ mc0 ∧ k ≤ ms0) (kk : ∀ x, g x = some r → pz_W G C nL pc' lv (.long x.1 :: st) (x.2) n k Q) : pz_W G C nL pc lv stk f n k Q := by
  obtain ⟨x, h1, h2⟩ := pz_bd hf
  exact pz_callS hC hK d hy hys hlk (hM x h1) hn hst hW hR hr (kk x h2)
theorem pz_Vv {α : Type} {F : Option (pz_H)} {g : pz_H → Option α} {r : α} (hC : pz_OK G C cc nL own) (hK : pz_K C rt0 fr0 lo0 mc0 ms0) (d : pz_d cc pc 3 pc' (.invokevirtual idx)) (hy : pz_y y cy mL rt np) (hyv : pz_yv y ci) (hlk : pz_lk own idx y) (hf : F.bind g = some r) (hM : ∀ x, F = some x → pz_Met C.2.1 G y cy mL rt fr lo 0 0 (.ref b :: As) f (none) (x) ∧ pz_is f b ci = some ()) (hn : As.length = np) (hst : stk = As.reverse ++ .ref b :: st) (hW : (st.map fun v => v.category).sum ≤ 8) (hR : fr + 1 ≤ fr0 ∧ 8 + (mL + 11) + lo ≤ lo0) (hr : n ≤ mc0 ∧ k ≤ ms0) (kk : ∀ x, g x = some r → pz_W G C nL pc' lv (st) (x) n k Q) : pz_W G C nL pc lv stk f n k Q := by
  obtain ⟨x, h1, h2⟩ := pz_bd hf
  exact pz_callV hC hK d hy hyv hlk (hM x h1).1 (hM x h1).2 hn hst hW hR hr (kk x h2)
theorem pz_Sv {α : Type} {F : Option (pz_H)} {g : pz_H → Option α} {r : α} (hC : pz_OK G C cc nL own) (hK : pz_K C rt0 fr0 lo0 mc0 ms0) (d : pz_d cc pc 3 pc' (.invokestatic idx)) (hy : pz_y y cy mL rt np) (hys : pz_ys y) (hlk : pz_lk own idx y) (hf : F.bind g = some r) (hM : ∀ x, F = some x → pz_Met C.2.1 G y cy mL rt fr lo 0 0 As f (none) (x)) (hn : As.length = np) (hst : stk = As.reverse ++ st) (hW : (st.map fun v => v.category).sum ≤ 8) (hR : fr + 1 ≤ fr0 ∧ 8 + (mL + 11) + lo ≤ lo0) (hr : n ≤ mc0 ∧ k ≤ ms0) (kk : ∀ x, g x = some r → pz_W G C nL pc' lv (st) (x) n k Q) : pz_W G C nL pc lv stk f n k Q := by
  obtain ⟨x, h1, h2⟩ := pz_bd hf
  exact pz_callS hC hK d hy hys hlk (hM x h1) hn hst hW hR hr (kk x h2)
theorem pz_Vu {α : Type} {F : Option (Unit)} {g : Unit → Option α} {r : α} (hC : pz_OK G C cc nL own) (hK : pz_K C rt0 fr0 lo0 mc0 ms0) (d : pz_d cc pc 3 pc' (.invokevirtual idx)) (hy : pz_y y cy mL rt np) (hyv : pz_yv y ci) (hlk : pz_lk own idx y) (hf : F.bind g = some r) (hM : ∀ x, F = some x → pz_Met C.2.1 G y cy mL rt fr lo 0 0 (.ref b :: As) f (none) (f) ∧ pz_is f b ci = some ()) (hn : As.length = np) (hst : stk = As.reverse ++ .ref b :: st) (hW : (st.map fun v => v.category).sum ≤ 8) (hR : fr + 1 ≤ fr0 ∧ 8 + (mL + 11) + lo ≤ lo0) (hr : n ≤ mc0 ∧ k ≤ ms0) (kk : ∀ x, g x = some r → pz_W G C nL pc' lv (st) (f) n k Q) : pz_W G C nL pc lv stk f n k Q := by
  obtain ⟨x, h1, h2⟩ := pz_bd hf
  exact pz_callV hC hK d hy hyv hlk (hM x h1).1 (hM x h1).2 hn hst hW hR hr (kk x h2)
theorem pz_Su {α : Type} {F : Option (Unit)} {g : Unit → Option α} {r : α} (hC : pz_OK G C cc nL own) (hK : pz_K C rt0 fr0 lo0 mc0 ms0) (d : pz_d cc pc 3 pc' (.invokestatic idx)) (hy : pz_y y cy mL rt np) (hys : pz_ys y) (hlk : pz_lk own idx y) (hf : F.bind g = some r) (hM : ∀ x, F = some x → pz_Met C.2.1 G y cy mL rt fr lo 0 0 As f (none) (f)) (hn : As.length = np) (hst : stk = As.reverse ++ st) (hW : (st.map fun v => v.category).sum ≤ 8) (hR : fr + 1 ≤ fr0 ∧ 8 + (mL + 11) + lo ≤ lo0) (hr : n ≤ mc0 ∧ k ≤ ms0) (kk : ∀ x, g x = some r → pz_W G C nL pc' lv (st) (f) n k Q) : pz_W G C nL pc lv stk f n k Q := by
  obtain ⟨x, h1, h2⟩ := pz_bd hf
  exact pz_callS hC hK d hy hys hlk (hM x h1) hn hst hW hR hr (kk x h2)
theorem pz_Iv {α : Type} {F : Option pz_H} {g : pz_H → Option α} {r : α} (hC : pz_OK G C cc nL own) (hK : pz_K C rt0 fr0 lo0 mc0 ms0) (d : pz_d cc pc 3 pc' (.invokespecial idx)) (hy : pz_y y cy mL none np) (hyi : pz_yi y) (hlk : pz_lk own idx y) (hf : F.bind g = some r) (hM : ∀ x, F = some x → pz_Met C.2.1 G y cy mL none fr lo mc ms (.ref b :: As) f none x) (hn : As.length = np) (hst : stk = As.reverse ++ .ref b :: st) (hW : (st.map fun v => v.category).sum ≤ 8) (hR : fr + 1 ≤ fr0 ∧ 8 + (mL + 11) + lo ≤ lo0) (hr : n + mc ≤ mc0 ∧ k + ms ≤ ms0) {n' k' : Nat} (hn' : n + mc = n') (hk' : k + ms = k') (kk : ∀ x, g x = some r → pz_W G C nL pc' lv st x n' k' Q) : pz_W G C nL pc lv stk f n k Q := by
  obtain ⟨x, h1, h2⟩ := pz_bd hf
  subst hn'; subst hk'
  exact pz_callI hC hK d hy hyi hlk (hM x h1) hn hst hW hR hr (kk x h2)
theorem pz_iret0 {x : Int32} (hC : pz_OK G C cc nL own) (hK : pz_K C (some .int) fr0 lo0 mc0 ms0) (d : pz_d cc pc 1 pc' .ireturn) : pz_W G C nL pc lv [.int x] f n k (pz_Q G C (some (.int x)) f n k) := by
  intro H locs ls hD hF hl
  obtain ⟨d1, rfl⟩ := d
  exact W.iret hC.1 hC.2.1 hK.1 (fun t ht hW => ⟨rfl, by rw [ht]; exact hD⟩) hF d1 (hlocks := hC.2.2.2.2.1)
theorem pz_zret0 {x : Int32} {ty : FieldType} (hC : pz_OK G C cc nL own) (hK : pz_K C (some ty) fr0 lo0 mc0 ms0) (d : pz_d cc pc 1 pc' .ireturn) (hn : narrow ty (.int x) = .int x) : pz_W G C nL pc lv [.int x] f n k (pz_Q G C (some (.int x)) f n k) := by
  intro H locs ls hD hF hl
  obtain ⟨d1, rfl⟩ := d
  exact W.zret hC.1 hC.2.1 hK.1 hn (fun t ht hW => ⟨rfl, by rw [ht]; exact hD⟩) hF d1 (hlocks := hC.2.2.2.2.1)
theorem pz_lret0 {x : Int64} (hC : pz_OK G C cc nL own) (hK : pz_K C (some .long) fr0 lo0 mc0 ms0) (d : pz_d cc pc 1 pc' .lreturn) : pz_W G C nL pc lv [.long x] f n k (pz_Q G C (some (.long x)) f n k) := by
  intro H locs ls hD hF hl
  obtain ⟨d1, rfl⟩ := d
  exact W.lret hC.1 hC.2.1 hK.1 (fun t ht hW => ⟨rfl, by rw [ht]; exact hD⟩) hF d1 (hlocks := hC.2.2.2.2.1)
theorem pz_vret0  (hC : pz_OK G C cc nL own) (hK : pz_K C (none) fr0 lo0 mc0 ms0) (d : pz_d cc pc 1 pc' .return_) : pz_W G C nL pc lv [] f n k (pz_Q G C (none) f n k) := by
  intro H locs ls hD hF hl
  obtain ⟨d1, rfl⟩ := d
  exact W.vret hC.1 hC.2.1 hK.1 (fun t ht hW => ⟨rfl, by rw [ht]; exact hD⟩) hF d1 (hlocks := hC.2.2.2.2.1)
theorem pz_iret {x r : Int32} (hC : pz_OK G C cc nL own) (hK : pz_K C (some .int) fr0 lo0 mc0 ms0) (d : pz_d cc pc 1 pc' .ireturn) (hf : some x = some r) : pz_W G C nL pc lv [.int x] f n k (pz_Q G C (some (.int r)) f n k) := by
  cases hf; exact pz_iret0 hC hK d
theorem pz_iretw {x : Int32} {r : Int32 × pz_H} (hC : pz_OK G C cc nL own) (hK : pz_K C (some .int) fr0 lo0 mc0 ms0) (d : pz_d cc pc 1 pc' .ireturn) (hf : some (x, f) = some r) : pz_W G C nL pc lv [.int x] f n k (pz_Q G C (some (.int r.1)) r.2 n k) := by
  cases hf; exact pz_iret0 hC hK d
theorem pz_bnar {x r : Int32} (h : pz_b x = some r) : x = r ∧ narrow .boolean (.int x) = .int x := by
  unfold pz_b at h
  by_cases hx : x &&& 1 = x
  · rw [if_pos hx] at h; cases h; refine ⟨rfl, ?_⟩; simp only [narrow]; rw [hx]
  · rw [if_neg hx] at h; cases h
theorem pz_zret {x r : Int32} (hC : pz_OK G C cc nL own) (hK : pz_K C (some .boolean) fr0 lo0 mc0 ms0) (d : pz_d cc pc 1 pc' .ireturn) (hf : pz_b x = some r) : pz_W G C nL pc lv [.int x] f n k (pz_Q G C (some (.int r)) f n k) := by
  obtain ⟨rfl, h⟩ := pz_bnar hf; exact pz_zret0 hC hK d h
theorem pz_zretw {x : Int32} {r : Int32 × pz_H} (hC : pz_OK G C cc nL own) (hK : pz_K C (some .boolean) fr0 lo0 mc0 ms0) (d : pz_d cc pc 1 pc' .ireturn) (hf : (pz_b x).bind (fun x => some (x, f)) = some r) : pz_W G C nL pc lv [.int x] f n k (pz_Q G C (some (.int r.1)) r.2 n k) := by
  obtain ⟨z, h1, h2⟩ := pz_bd hf
  obtain ⟨rfl, h⟩ := pz_bnar h1; cases h2; exact pz_zret0 hC hK d h
theorem pz_lret {x r : Int64} (hC : pz_OK G C cc nL own) (hK : pz_K C (some .long) fr0 lo0 mc0 ms0) (d : pz_d cc pc 1 pc' .lreturn) (hf : some x = some r) : pz_W G C nL pc lv [.long x] f n k (pz_Q G C (some (.long r)) f n k) := by
  cases hf; exact pz_lret0 hC hK d
theorem pz_lretw {x : Int64} {r : Int64 × pz_H} (hC : pz_OK G C cc nL own) (hK : pz_K C (some .long) fr0 lo0 mc0 ms0) (d : pz_d cc pc 1 pc' .lreturn) (hf : some (x, f) = some r) : pz_W G C nL pc lv [.long x] f n k (pz_Q G C (some (.long r.1)) r.2 n k) := by
  cases hf; exact pz_lret0 hC hK d
theorem pz_vret {r : pz_H} (hC : pz_OK G C cc nL own) (hK : pz_K C none fr0 lo0 mc0 ms0) (d : pz_d cc pc 1 pc' .return_) (hf : some f = some r) : pz_W G C nL pc lv [] f n k (pz_Q G C none r n k) := by
  cases hf; exact pz_vret0 hC hK d
theorem pz_uret {r : Unit} (hC : pz_OK G C cc nL own) (hK : pz_K C none fr0 lo0 mc0 ms0) (d : pz_d cc pc 1 pc' .return_) (hf : some () = some r) : pz_W G C nL pc lv [] f n k (pz_Q G C none f n k) := pz_vret0 hC hK d
theorem pz_objInit {a : Nat} (hC : pz_OK G C cc nL own) (hK : pz_K C rt0 fr0 lo0 mc0 ms0) (d : pz_d cc pc 3 pc' (.invokespecial idx)) (hlk : Cond.methodLink own idx Lib.objectInit ∈ lw_tbl) (hi : Cond.instanceMethod Lib.objectInit ∈ lw_tbl) (hc : Cond.code Lib.objectInit ⟨#[0xb1]⟩ 1 none ∈ lw_tbl) (hfr : 1 ≤ fr0) (hlo : (st.map fun v => v.category).sum + 12 ≤ lo0) (kk : pz_W G C nL pc' lv st f n k Q) : pz_W G C nL pc lv (.ref a :: st) f n k Q := by
  intro H locs ls hD hF hl
  obtain ⟨d1, rfl⟩ := d
  have hT := hC.2.2.2.2.2
  refine W.objInit hC.1 hC.2.1 hC.2.2.2.1 (hT.wd hlk rfl _) (hT.wd hi rfl _) (hT.wd hc rfl _) rfl (by rw [hC.2.2.1]; exact hl.1) rfl d1 (by rw [hK.2]; exact hfr) (by rw [hK.2]; simpa [JFrame.monitorRoom] using hlo) ?_
  exact kk H locs ls hD hF hl
theorem pz_new {Cn : String} {T : u_T} {N : Nat} {ty : Nat → FieldType} {fs : List Value} {n' k' : Nat} (hC : pz_OK G C cc nL own) (hK : pz_K C rt0 fr0 lo0 mc0 ms0) (d : pz_d cc pc 3 pc' (.new idx)) (hc : vwCl[ci]? = some (Cn, T, N)) (hin : ∀ w ∈ u_ws Cn T N, w ∈ lw_tbl) (hty : ∀ k, k < N → parseFieldDescriptor (T k).2.2.1 = some (ty k)) (h1 : Cond.classLink own idx Cn ∈ lw_tbl) (h2 : Cond.instantiable Cn N ∈ lw_tbl) (h3 : Cond.initialized Cn ∈ lw_tbl) (hfs : ∀ j, j < N → defaultValue (ty j) = vp_V fs j) (hn' : n + 1 = n') (hk' : k + N = k') (hr : n' ≤ mc0 ∧ k' ≤ ms0) (kk : pz_W G C nL pc' lv (.ref f.2.2 :: st) (pz_nw f (.inl (ci, fs))) n' k' Q) : pz_W G C nL pc lv st f n k Q := by
  intro H locs ls hD hF hl
  obtain ⟨d1, rfl⟩ := d
  subst hn'; subst hk'
  have hT := hC.2.2.2.2.2
  have hKn := hT.2.1.1 ci _ hc
  refine W.newcK hC.1 hC.2.1 hC.2.2.2.1 (hT.wd h1 rfl _) (hT.wd h2 rfl _) (hT.wd h3 rfl _) rfl d1 (by rw [hK.2]; exact hr.1) (by rw [hK.2]; exact hr.2) hKn.2.1 rfl fun H1 kC hkC e1 z1 o1 => ?_
  have hz : f.2.2 = H.size := hD.2.1
  rw [hz] at kk
  exact kk H1 locs ls (hD.push (pz_ci hc) ⟨_, hc, (u_born ty (pz_uws hT hin (pz_as C)) (fun w h => h) hKn hkC e1 hty).to hfs⟩ z1 o1) hF hl
theorem pz_newa {atype : ArrayType} {ty : FieldType} {t N : Nat} {x : Int32} {g : (Nat → Int32) ⊕ (Nat → Int64) ⊕ (Nat → Option Nat)} {n' k' : Nat} (hC : pz_OK G C cc nL own) (hK : pz_K C rt0 fr0 lo0 mc0 ms0) (d : pz_d cc pc 2 pc' (.newarray atype)) (ht10 : t < 10) (hw : Cond.arrayClass ty ∈ lw_tbl) (hty : newarray.typeOf atype = ty) (hra : ∀ G : pz_G, ∀ U, va_K G.1 vwCl (pz_tys G) U → U.vm.findClass ("[" ++ ty.toString) = some (G.2.1 t)) (hg : ∀ G : pz_G, ∀ cA, cA = G.2.1 t → ∃ a0, pz_e G (.inr (t, N, g)) = .inl (cA, a0) ∧ vp_cell cA a0 = arrV cA N (fun _ => defaultValue ty)) (hx : ¬ x < 0) (hN : x.toNatClampNeg = N) (hbytes : N * componentBytes ty ≤ 536870912) (hn' : n + 1 = n') (hk' : k + N = k') (hr : n' ≤ mc0 ∧ k' ≤ ms0) (kk : pz_W G C nL pc' lv (.ref f.2.2 :: st) (pz_nw f (.inr (t, N, g))) n' k' Q) : pz_W G C nL pc lv (.int x :: st) f n k Q := by
  intro H locs ls hD hF hl
  obtain ⟨d1, rfl⟩ := d
  subst hn'; subst hk'; subst hty
  have hT := hC.2.2.2.2.2
  refine va_newaK hC.1 hC.2.1 (hT.wd hw rfl _) rfl d1 rfl hx hN hbytes (by rw [hK.2]; exact hr.1) (by rw [hK.2]; exact hr.2) rfl fun H1 cA e1 z1 o1 hAr hNm => ?_
  have hz : f.2.2 = H.size := hD.2.1
  rw [hz] at kk
  have hcA : cA = G.2.1 t := Option.some.inj (hNm.symm.trans (hra G _ hT.2.1))
  obtain ⟨a0, ha1, ha2⟩ := hg G cA hcA
  refine kk H1 locs ls (hD.push ht10 ?_ z1 o1) hF hl
  rw [ha1]
  show H1[H.size]? = some (vp_cell _ _)
  rw [ha2]; exact e1
theorem pz_anew {Cn : String} {t N : Nat} {x : Int32} {n' k' : Nat} (hC : pz_OK G C cc nL own) (hK : pz_K C rt0 fr0 lo0 mc0 ms0) (d : pz_d cc pc 3 pc' (.anewarray idx)) (hw : Cond.classLink own idx Cn ∈ lw_tbl) (ht : ∀ G : pz_G, (pz_tys G)[t]? = some (G.2.1 t, .object Cn)) (h3 : 3 ≤ t ∧ t < 6) (hx : ¬ x < 0) (hN : x.toNatClampNeg = N) (hbytes : N * 4 ≤ 536870912) (hn' : n + 1 = n') (hk' : k + N = k') (hr : n' ≤ mc0 ∧ k' ≤ ms0) (kk : pz_W G C nL pc' lv (.ref f.2.2 :: st) (pz_nw f (.inr (t, N, .inr (.inr (fun _ => none))))) n' k' Q) : pz_W G C nL pc lv (.int x :: st) f n k Q := by
  intro H locs ls hD hF hl
  obtain ⟨d1, rfl⟩ := d
  subst hn'; subst hk'; subst hN
  have hT := hC.2.2.2.2.2
  have hov := hT.2.2.2.1 t h3.1 h3.2 _ (ht G) Cn rfl
  refine W.anew hC.1 hC.2.1 hC.2.2.2.1 (hT.wd hw rfl _) (va_AO.use hov) rfl d1 rfl hx hbytes (by rw [hK.2]; exact hr.1) (by rw [hK.2]; exact hr.2) fun cA kA comp f1 f2 f3 f4 => ?_
  have hz : f.2.2 = H.size := hD.2.1
  rw [hz] at kk
  obtain ⟨kA', comp', g1, g2, g3, g4⟩ := (hT.2.1.2 t _ (ht G)).2
  have hcA : cA = G.2.1 t := Option.some.inj (f1.symm.trans g4)
  subst hcA
  refine kk _ locs ls (hD.push (show t < 10 by omega) ?_ (by rw [Array.size_push]) (fun q hq => by rw [Array.getElem?_push, if_neg (Nat.ne_of_lt hq)])) hF hl
  show _ = some (vp_cell _ _)
  rw [vp_cell_q, Array.getElem?_push_size, ← arrV_new]
  rfl
end PZC
