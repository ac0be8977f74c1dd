/-! ===== the two readers that throw ===== -/
def xE : String := "java/util/NoSuchElementException"
def xS : List (Nat × String) := [(118, "no such span"), (138, "a span has no such number"), (143, "no such spouse"), (178, "a spouse has no such number")]
/-- what a throw reads besides the good words -/
def xT (H0 : Heap) (U : State) : Prop :=
  vx_Zq Bundle.tN "UNASSIGNED_STACK" Bundle.steD (fun q => H0.size ≤ q) U H0 ∧ vx_Zq Bundle.tN "SUPPRESSED_SENTINEL" Bundle.listD (fun q => H0.size ≤ q) U H0 ∧
  (∀ q ∈ xS, ∃ a, vk_R RX9 q.1 q.2 a U) ∧ va_Nw (thI "java/lang/RuntimeException") U ∧ va_Nw (thI "java/lang/Exception") U ∧ va_Nw (thI "java/lang/Throwable") U ∧ va_Nw (.castable xE xE) U
theorem xT.warm {H0 : Heap} {u V : State} (hW : u.WarmedH V.vm) (h : xT H0 u) : xT H0 V := by
  obtain ⟨h1, h2, h3, h4, h5, h6, h7⟩ := h
  exact ⟨vx_Zq.moved hW.alike h1, vx_Zq.moved hW.alike h2, fun q hq => (h3 q hq).elim fun a ha => ⟨a, vk_R.warm hW ha⟩, va_Nw.warmD hW h4, va_Nw.warmD hW h5, va_Nw.warmD hW h6, va_Nw.warmC hW h7⟩
theorem pz_D.bump {G : pz_G} {f : pz_H} {H H1 : Heap} (hD : pz_D G f H) (hz : H.size ≤ H1.size) (hq : ∀ q : Nat, q < H.size → H1[q]? = H[q]?) : pz_D G (f.1, f.2.1, H1.size) H1 := by
  obtain ⟨h1, h2, h3, h4, h5, h6⟩ := hD
  refine ⟨h1, rfl, Nat.le_trans h3 hz, h4, fun q e' hql he' => ?_, fun q hql => ?_⟩
  · have h7 := h5 q e' hql he'
    exact ⟨h7.1, h7.2.kept (hq q h7.2.lt)⟩
  · rw [hq q (by omega)]
    exact h6 q hql
theorem pz_wk_good {w : Cond} (h : goodWord w = true) : pz_wk w = true := by
  cases w <;> first | rfl | exact h
theorem thW_ok {G : pz_G} {U : State} (hT : pz_T G U) (hX : xT G.2.2.1 U) (A : Array Value) : ∀ w ∈ thW, w.before A U = true := by
  obtain ⟨-, -, -, hd1, hd2, hd3, hca⟩ := hX
  refine vx_hat (B := [thI "java/lang/RuntimeException", thI "java/lang/Exception", thI "java/lang/Throwable", .castable xE xE]) (fun w hw => ?_) (fun w hw => ?_) (vx_c (va_Nw.use rfl hd1) (vx_c (va_Nw.use rfl hd2) (vx_c (va_Nw.use rfl hd3) (vx_c (va_Nw.use rfl hca) vx_n))))
  · have hg := (List.mem_filter.mp hw).2
    rw [thW_in] at hw
    obtain ⟨i, -, hi⟩ := List.mem_filterMap.mp hw
    exact hT.wd (List.mem_of_getElem? hi) (pz_wk_good hg) A
  · rw [thW_no] at hw; exact hw
def pz_XQ (G : pz_G) (C : pz_C) (Qc : Array Value → State → Outcome → State → Prop) (XC : String → State → State → Prop) (mc ms : Nat) : State → Prop := vx_MQ (pz_bl C) Qc XC (pz_as C) (pz_s C) mc ms (pz_A G)
theorem pz_enterX {l : Launch} {G : pz_G} {y : MethodName} {cc : ByteArray} {mL : Nat} {ret : Option FieldType} {fr lo mc ms : Nat} {As : List Value} {f : pz_H} {Qc : Array Value → State → Outcome → State → Prop} {XC : String → State → State → Prop} (hy : plainName y.cls = true) (hlen : (lg_sl As).length ≤ mL)
    (body : ∀ C : pz_C, C.2.1 = l → pz_OK G C cc mL y.cls → pz_K C ret fr lo mc ms → (∀ x ∈ (pz_co C).exceptionTable.toList, False) → pz_W G C mL 0 (lv_args 0 As) [] f 0 0 (pz_XQ G C Qc XC mc ms)) : vx_Met l y [.code y cc mL ret] { frames := fr, cells := mc, slots := ms, locals := lo } (pz_Pc G As f) Qc XC mc ms (pz_A G) := by
  refine vx_ofW (cc := cc) (maxL := mL) (ret := ret) hy rfl ?_
  intro p e s m args below meth c s₁ B hml htb hv
  obtain ⟨rfl, hT, hD⟩ := hv
  rw [lg_entry_eq]
  exact body (p, l, e, { frames := fr, cells := mc, slots := ms, locals := lo }, s, m, As.toArray, below, meth, c) rfl ⟨B.exec, B.bytes, hml, findClass_of_methodNamed B.named, B.notSynchronized, hT⟩ ⟨B.returns, rfl⟩ htb s.heap [] _ hD (fun _ h => by cases h) (lv_entry As hlen)
section PZXX
variable {G : pz_G} {C : pz_C} {cc : ByteArray} {nL : Nat} {own : String} {pc pc' : Nat} {lv lv' : List (Nat × Value)} {st : List Value} {f : pz_H} {n k : Nat} {Q : State → Prop}
variable {Qc : Array Value → State → Outcome → State → Prop} {XC : String → State → State → Prop} {fr0 lo0 mc ms : Nat}
theorem pz_iretX {x : Int32} (hC : pz_OK G C cc nL own) (hK : pz_K C (some .int) fr0 lo0 mc ms) (d : pz_d cc pc 1 pc' .ireturn) (hn : n ≤ mc) (hk : k ≤ ms) (hq : ∀ t : State, pz_D G f t.heap → Qc (pz_as C) (pz_s C) (.returned (some (.int x))) t) : pz_W G C nL pc lv [.int x] f n k (pz_XQ G C Qc XC mc ms) := by
  refine pz_widen hn hk ?_
  intro H locs ls hD hF hl
  exact vx_ret (W.iret hC.1 hC.2.1 hK.1 (fun t ht hW => hq t (by rw [ht]; exact hD)) hF d.1 (hlocks := hC.2.2.2.2.1))
theorem pz_throw {is p1 p2 p3 p4 p5 : Nat} {text : String} {rt : Option FieldType} (hC : pz_OK G C cc nL RX9) (hK : pz_K C rt fr0 lo0 1 6) (hlt : C.2.1.stackTraces = false) (hXT : ∀ U, G.2.2.2.2.2 U → xT G.2.2.1 U) (htb : ∀ x ∈ (pz_co C).exceptionTable.toList, False) (hi : (is, text) ∈ xS)
    (d0 : pz_d cc pc 3 p1 (.new 116)) (d3 : pz_d cc p1 1 p2 .dup) (d4 : pz_d cc p2 2 p3 (.ldc is)) (d6 : pz_d cc p3 3 p4 (.invokespecial 120)) (d9 : pz_d cc p4 1 p5 .athrow) (hfr : 5 < fr0) (hlo : 82 ≤ lo0)
    (hx : ∀ (t : State) (N : Nat), pz_D G (f.1, f.2.1, N) t.heap → XC xE (pz_s C) t) : pz_W G C nL pc lv [] f 0 0 (pz_XQ G C Qc XC 1 6) := by
  intro H locs ls hD hF hl
  obtain ⟨d0, rfl⟩ := d0
  obtain ⟨d3, rfl⟩ := d3
  obtain ⟨d4, rfl⟩ := d4
  obtain ⟨d6, rfl⟩ := d6
  obtain ⟨d9, rfl⟩ := d9
  have hT := hC.2.2.2.2.2
  have hX := hXT _ hT.2.2.2.2.1
  obtain ⟨hU, hN, hS, -⟩ := id hX
  obtain ⟨sa, hsa⟩ := hS _ hi
  have hq : ∀ a : Nat, a < G.2.2.1.size → ¬ (fun q => G.2.2.1.size ≤ q) a → H[a]? = G.2.2.1[a]? := fun a ha _ => hD.2.2.2.2.2 a ha
  refine th_throw (cls := xE) (sup := "java/lang/RuntimeException") (names := ["java/lang/Exception"]) (ik := 116) (ic := 120) (ix := 13) (by6 := thB6) (own := RX9) (A := fun q => G.2.2.1.size ≤ q) hC.1 hC.2.1 hlt hC.2.2.2.1 (by decide +kernel) (by decide +kernel) (by decide +kernel) (by decide +kernel) (by decide +kernel) (by decide +kernel) (by decide +kernel)
    (hT.wd (List.mem_of_getElem? (i := 920) (by decide +kernel)) rfl _) (hT.wd (List.mem_of_getElem? (i := 139) (by decide +kernel)) rfl _) hsa (thW_ok hT hX _) thW_ot (hU.kept hq) (hN.kept hq) (hl.1.trans hC.2.2.1.symm) d0 d3 d4 d6 d9 (fun x hx => (htb x hx).elim)
    (by rw [hK.2]; exact hfr) (by rw [hK.2]; exact hlo) (by rw [hK.2]; exact Nat.le_refl _) (by rw [hK.2]; exact Nat.le_refl _) hC.2.2.2.2.1 (fun t _ hz hq => hx t t.heap.size (hD.bump hz hq)) hF (Nat.le_refl _) (Nat.le_refl _)
end PZXX
/-- what leaves a reader: its class, that it had to, the heap as it was but larger -/
def xX (G : pz_G) (f : pz_H) (ro : Option Int32) : String → State → State → Prop := fun E _ t => E = xE ∧ ro = none ∧ ∃ N, pz_D G (f.1, f.2.1, N) t.heap
def xQ (G : pz_G) (f : pz_H) (ro : Option Int32) : Array Value → State → Outcome → State → Prop := fun _ _ o t => ∃ r, ro = some r ∧ o = .returned (some (.int r)) ∧ pz_D G f t.heap
def fnX9_span (f : pz_H) (a0 : Nat) (p1 p2 : Int32) : Option (Option Int32) :=
  (pz_is f a0 8).bind fun _ =>
  if p1 < 0 then some none else
  (pz_gR f a0 8 1).bind fun v1 =>
  (pz_gI f v1 2 5).bind fun v2 =>
  if p1 < v2 then
  (pz_gR f a0 8 1).bind fun v3 =>
  (pz_gR f v3 2 4).bind fun v4 =>
  (pz_aR f v4 3 p1).bind fun v5 =>
  if p2 = (0 : Int32) then (pz_gI f v5 5 0).bind fun v6 => some (some v6) else
  if p2 = (1 : Int32) then (pz_gI f v5 5 1).bind fun v6 => some (some v6) else
  if p2 = (2 : Int32) then (pz_gI f v5 5 2).bind fun v6 => some (some v6) else some none
  else some none
theorem xlt {x : Int32} {m : Int} (h0 : ¬ x.toInt = m) (h : m - 1 < x.toInt) : m < x.toInt := by omega
theorem mX9_span {l : Launch} {G : pz_G} {f : pz_H} {a0 : Nat} {p1 p2 : Int32} {ro : Option Int32} (hlt : l.stackTraces = false) (hXT : ∀ U, G.2.2.2.2.2 U → xT G.2.2.1 U) (hf : fnX9_span f a0 p1 p2 = some ro) :
    vx_Met l yX9_span [.code yX9_span cX9_span 4 (some .int)] { frames := 6, cells := 1, slots := 6, locals := 90 } (pz_Pc G [.ref a0, .int p1, .int p2] f) (xQ G f ro) (xX G f ro) 1 6 (pz_A G) ∧ pz_is f a0 8 = some () := by
  unfold fnX9_span at hf
  obtain ⟨_, h0, hf⟩ := pz_bd hf
  refine ⟨pz_enterX (by decide +kernel) (Nat.le_of_ble_eq_true rfl) (fun C hl hC hK htb => ?_), h0⟩
  subst hl
  refine pz_sub (lv' := [(0, .ref a0), (1, .int p1), (2, .int p2)]) [0, 1, 2] rfl ?_
  have T15 : ∀ lv, ro = none → pz_W G C 4 15 lv [] f 0 0 (pz_XQ G C (xQ G f ro) (xX G f ro) 1 6) := fun lv hr => pz_throw hC hK hlt hXT htb (text := "no such span") (by decide +kernel) dX9_span_15 dX9_span_18 dX9_span_19 dX9_span_21 dX9_span_24 (by decide) (by decide) (fun t N hd => ⟨rfl, hr, N, hd⟩)
  have T79 : ∀ lv, ro = none → pz_W G C 4 79 lv [] f 0 0 (pz_XQ G C (xQ G f ro) (xX G f ro) 1 6) := fun lv hr => pz_throw hC hK hlt hXT htb (text := "a span has no such number") (by decide +kernel) dX9_span_79 dX9_span_82 dX9_span_83 dX9_span_85 dX9_span_88 (by decide) (by decide) (fun t N hd => ⟨rfl, hr, N, hd⟩)
  refine pz_iload_n hC dX9_span_0 1 rfl ?_
  refine pz_if_lt hC dX9_span_1 hf (fun _ hf => T15 _ (Option.some.inj hf).symm) (fun _ hf => ?_)
  refine pz_iload_n hC dX9_span_4 1 rfl ?_
  refine pz_aload_n hC dX9_span_5 0 rfl ?_
  refine pz_getR hC dX9_span_6 fa_X9_16 hf (fun v1 hf => ?_)
  refine pz_getI hC dX9_span_9 fa_X9_92 hf (fun v2 hf => ?_)
  refine pz_icmp_lt hC dX9_span_12 hf (fun _ hf => ?_) (fun _ hf => T15 _ (Option.some.inj hf).symm)
  refine pz_aload_n hC dX9_span_25 0 rfl ?_
  refine pz_getR hC dX9_span_26 fa_X9_16 hf (fun v3 hf => ?_)
  refine pz_getR hC dX9_span_29 fa_X9_123 hf (fun v4 hf => ?_)
  refine pz_iload_n hC dX9_span_32 1 rfl ?_
  refine pz_aald hC dX9_span_33 (fun _ => rfl) (by decide) hf (fun v5 hf => ?_)
  refine pz_astore_n (lv' := [(3, .ref v5), (0, .ref a0), (1, .int p1), (2, .int p2)]) hC dX9_span_34 (by decide) rfl ?_
  refine pz_iload_n hC dX9_span_35 3 rfl ?_
  refine pz_case (x := p2) (v := (0 : Int32)) hf (fun c0 hf => ?_) (fun c0 hf => ?_)
  · refine pz_tabI (tgt := 64) hC dX9_span_36 c0 (by decide) (by decide) rfl rfl ?_
    refine pz_aload_n hC dX9_span_64 0 rfl ?_
    refine pz_getI hC dX9_span_65 fa_X9_127 hf (fun v6 hf => ?_)
    exact pz_iretX hC hK dX9_span_68 (by decide) (by decide) (fun t hd => ⟨v6, (Option.some.inj hf).symm, rfl, hd⟩)
  refine pz_case (x := p2) (v := (1 : Int32)) hf (fun c1 hf => ?_) (fun c1 hf => ?_)
  · refine pz_tabI (tgt := 69) hC dX9_span_36 c1 (by decide) (by decide) rfl rfl ?_
    refine pz_aload_n hC dX9_span_69 0 rfl ?_
    refine pz_getI hC dX9_span_70 fa_X9_132 hf (fun v6 hf => ?_)
    exact pz_iretX hC hK dX9_span_73 (by decide) (by decide) (fun t hd => ⟨v6, (Option.some.inj hf).symm, rfl, hd⟩)
  refine pz_case (x := p2) (v := (2 : Int32)) hf (fun c2 hf => ?_) (fun c2 hf => ?_)
  · refine pz_tabI (tgt := 74) hC dX9_span_36 c2 (by decide) (by decide) rfl rfl ?_
    refine pz_aload_n hC dX9_span_74 0 rfl ?_
    refine pz_getI hC dX9_span_75 fa_X9_135 hf (fun v6 hf => ?_)
    exact pz_iretX hC hK dX9_span_78 (by decide) (by decide) (fun t hd => ⟨v6, (Option.some.inj hf).symm, rfl, hd⟩)
  refine pz_tabO (tgt := 79) hC dX9_span_36 ?_ rfl (T79 _ (Option.some.inj hf).symm)
  have q0 : ¬ p2.toInt = 0 := fun h => c0 (Int32.toInt_inj.mp h)
  have q1 : ¬ p2.toInt = 1 := fun h => c1 (Int32.toInt_inj.mp h)
  have q2 : ¬ p2.toInt = 2 := fun h => c2 (Int32.toInt_inj.mp h)
  omega
def fnX9_spouse (f : pz_H) (a0 : Nat) (p1 p2 : Int32) : Option (Option Int32) :=
  (pz_is f a0 8).bind fun _ =>
  (pz_gR f a0 8 1).bind fun v1 =>
  (fnX3_hasSpouse f v1 p1).bind fun x2 =>
  if x2 = 0 then some none else
  (pz_gR f a0 8 1).bind fun v3 =>
  (pz_gR f v3 2 7).bind fun v4 =>
  (pz_aR f v4 4 p1).bind fun v5 =>
  if p2 = (0 : Int32) then (pz_gI f v5 6 0).bind fun v6 => some (some v6) else
  if p2 = (1 : Int32) then (pz_gI f v5 6 1).bind fun v6 => some (some v6) else
  if p2 = (2 : Int32) then (pz_gI f v5 6 2).bind fun v6 => some (some v6) else
  if p2 = (3 : Int32) then (pz_gI f v5 6 3).bind fun v6 => some (some v6) else
  if p2 = (4 : Int32) then (pz_gI f v5 6 4).bind fun v6 => some (some v6) else
  if p2 = (5 : Int32) then (pz_gI f v5 6 5).bind fun v6 => some (some v6) else
  if p2 = (6 : Int32) then (pz_gI f v5 6 6).bind fun v6 => some (some v6) else
  if p2 = (7 : Int32) then (pz_gI f v5 6 7).bind fun v6 => some (some v6) else
  if p2 = (8 : Int32) then (pz_gI f v5 6 8).bind fun v6 => some (some v6) else
  if p2 = (9 : Int32) then (pz_gR f a0 8 1).bind fun v6 => (fnX3_beginOf f v6 v5).bind fun x7 => some (some x7) else some none
theorem mX9_spouse {l : Launch} {G : pz_G} {f : pz_H} {a0 : Nat} {p1 p2 : Int32} {ro : Option Int32} (hlt : l.stackTraces = false) (hXT : ∀ U, G.2.2.2.2.2 U → xT G.2.2.1 U) (hf : fnX9_spouse f a0 p1 p2 = some ro) :
    vx_Met l yX9_spouse [.code yX9_spouse cX9_spouse 4 (some .int)] { frames := 6, cells := 1, slots := 6, locals := 90 } (pz_Pc G [.ref a0, .int p1, .int p2] f) (xQ G f ro) (xX G f ro) 1 6 (pz_A G) ∧ pz_is f a0 8 = some () := by
  unfold fnX9_spouse at hf
  obtain ⟨_, h0, hf⟩ := pz_bd hf
  refine ⟨pz_enterX (by decide +kernel) (Nat.le_of_ble_eq_true rfl) (fun C hl hC hK htb => ?_), h0⟩
  subst hl
  refine pz_sub (lv' := [(0, .ref a0), (1, .int p1), (2, .int p2)]) [0, 1, 2] rfl ?_
  have T11 : ∀ lv, ro = none → pz_W G C 4 11 lv [] f 0 0 (pz_XQ G C (xQ G f ro) (xX G f ro) 1 6) := fun lv hr => pz_throw hC hK hlt hXT htb (text := "no such spouse") (by decide +kernel) dX9_spouse_11 dX9_spouse_14 dX9_spouse_15 dX9_spouse_17 dX9_spouse_20 (by decide) (by decide) (fun t N hd => ⟨rfl, hr, N, hd⟩)
  have T142 : ∀ lv, ro = none → pz_W G C 4 142 lv [] f 0 0 (pz_XQ G C (xQ G f ro) (xX G f ro) 1 6) := fun lv hr => pz_throw hC hK hlt hXT htb (text := "a spouse has no such number") (by decide +kernel) dX9_spouse_142 dX9_spouse_145 dX9_spouse_146 dX9_spouse_148 dX9_spouse_151 (by decide) (by decide) (fun t N hd => ⟨rfl, hr, N, hd⟩)
  refine pz_aload_n hC dX9_spouse_0 0 rfl ?_
  refine pz_getR hC dX9_spouse_1 fa_X9_16 hf (fun v1 hf => ?_)
  refine pz_iload_n hC dX9_spouse_4 1 rfl ?_
  refine pz_Vi (As := [.int p1]) hC hK dX9_spouse_5 py_X3_hasSpouse pv_X3_hasSpouse lk_X9_140 hf (fun _ h => mX3_hasSpouse h) rfl rfl (Nat.le_of_ble_eq_true rfl) ⟨by decide, by decide⟩ ⟨by decide, by decide⟩ (fun x2 hf => ?_)
  refine pz_if_ne hC dX9_spouse_8 hf (fun _ hf => ?_) (fun _ hf => T11 _ (Option.some.inj hf).symm)
  refine pz_aload_n hC dX9_spouse_21 0 rfl ?_
  refine pz_getR hC dX9_spouse_22 fa_X9_16 hf (fun v3 hf => ?_)
  refine pz_getR hC dX9_spouse_25 fa_X9_145 hf (fun v4 hf => ?_)
  refine pz_iload_n hC dX9_spouse_28 1 rfl ?_
  refine pz_aald hC dX9_spouse_29 (fun _ => rfl) (by decide) hf (fun v5 hf => ?_)
  refine pz_astore_n (lv' := [(3, .ref v5), (0, .ref a0), (1, .int p1), (2, .int p2)]) hC dX9_spouse_30 (by decide) rfl ?_
  refine pz_iload_n hC dX9_spouse_31 3 rfl ?_
  refine pz_case (x := p2) (v := (0 : Int32)) hf (fun c0 hf => ?_) (fun c0 hf => ?_)
  · refine pz_tabI (tgt := 88) hC dX9_spouse_32 c0 (by decide) (by decide) rfl rfl ?_
    refine pz_aload_n hC dX9_spouse_88 0 rfl ?_
    refine pz_getI hC dX9_spouse_89 fa_X9_149 hf (fun v6 hf => ?_)
    exact pz_iretX hC hK dX9_spouse_92 (by decide) (by decide) (fun t hd => ⟨v6, (Option.some.inj hf).symm, rfl, hd⟩)
  refine pz_case (x := p2) (v := (1 : Int32)) hf (fun c1 hf => ?_) (fun c1 hf => ?_)
  · refine pz_tabI (tgt := 93) hC dX9_spouse_32 c1 (by decide) (by decide) rfl rfl ?_
    refine pz_aload_n hC dX9_spouse_93 0 rfl ?_
    refine pz_getI hC dX9_spouse_94 fa_X9_152 hf (fun v6 hf => ?_)
    exact pz_iretX hC hK dX9_spouse_97 (by decide) (by decide) (fun t hd => ⟨v6, (Option.some.inj hf).symm, rfl, hd⟩)
  refine pz_case (x := p2) (v := (2 : Int32)) hf (fun c2 hf => ?_) (fun c2 hf => ?_)
  · refine pz_tabI (tgt := 98) hC dX9_spouse_32 c2 (by decide) (by decide) rfl rfl ?_
    refine pz_aload_n hC dX9_spouse_98 0 rfl ?_
    refine pz_getI hC dX9_spouse_99 fa_X9_155 hf (fun v6 hf => ?_)
    exact pz_iretX hC hK dX9_spouse_102 (by decide) (by decide) (fun t hd => ⟨v6, (Option.some.inj hf).symm, rfl, hd⟩)
  refine pz_case (x := p2) (v := (3 : Int32)) hf (fun c3 hf => ?_) (fun c3 hf => ?_)
  · refine pz_tabI (tgt := 103) hC dX9_spouse_32 c3 (by decide) (by decide) rfl rfl ?_
    refine pz_aload_n hC dX9_spouse_103 0 rfl ?_
    refine pz_getI hC dX9_spouse_104 fa_X9_158 hf (fun v6 hf => ?_)
    exact pz_iretX hC hK dX9_spouse_107 (by decide) (by decide) (fun t hd => ⟨v6, (Option.some.inj hf).symm, rfl, hd⟩)
  refine pz_case (x := p2) (v := (4 : Int32)) hf (fun c4 hf => ?_) (fun c4 hf => ?_)
  · refine pz_tabI (tgt := 108) hC dX9_spouse_32 c4 (by decide) (by decide) rfl rfl ?_
    refine pz_aload_n hC dX9_spouse_108 0 rfl ?_
    refine pz_getI hC dX9_spouse_109 fa_X9_161 hf (fun v6 hf => ?_)
    exact pz_iretX hC hK dX9_spouse_112 (by decide) (by decide) (fun t hd => ⟨v6, (Option.some.inj hf).symm, rfl, hd⟩)
  refine pz_case (x := p2) (v := (5 : Int32)) hf (fun c5 hf => ?_) (fun c5 hf => ?_)
  · refine pz_tabI (tgt := 113) hC dX9_spouse_32 c5 (by decide) (by decide) rfl rfl ?_
    refine pz_aload_n hC dX9_spouse_113 0 rfl ?_
    refine pz_getI hC dX9_spouse_114 fa_X9_164 hf (fun v6 hf => ?_)
    exact pz_iretX hC hK dX9_spouse_117 (by decide) (by decide) (fun t hd => ⟨v6, (Option.some.inj hf).symm, rfl, hd⟩)
  refine pz_case (x := p2) (v := (6 : Int32)) hf (fun c6 hf => ?_) (fun c6 hf => ?_)
  · refine pz_tabI (tgt := 118) hC dX9_spouse_32 c6 (by decide) (by decide) rfl rfl ?_
    refine pz_aload_n hC dX9_spouse_118 0 rfl ?_
    refine pz_getI hC dX9_spouse_119 fa_X9_167 hf (fun v6 hf => ?_)
    exact pz_iretX hC hK dX9_spouse_122 (by decide) (by decide) (fun t hd => ⟨v6, (Option.some.inj hf).symm, rfl, hd⟩)
  refine pz_case (x := p2) (v := (7 : Int32)) hf (fun c7 hf => ?_) (fun c7 hf => ?_)
  · refine pz_tabI (tgt := 123) hC dX9_spouse_32 c7 (by decide) (by decide) rfl rfl ?_
    refine pz_aload_n hC dX9_spouse_123 0 rfl ?_
    refine pz_getI hC dX9_spouse_124 fa_X9_170 hf (fun v6 hf => ?_)
    exact pz_iretX hC hK dX9_spouse_127 (by decide) (by decide) (fun t hd => ⟨v6, (Option.some.inj hf).symm, rfl, hd⟩)
  refine pz_case (x := p2) (v := (8 : Int32)) hf (fun c8 hf => ?_) (fun c8 hf => ?_)
  · refine pz_tabI (tgt := 128) hC dX9_spouse_32 c8 (by decide) (by decide) rfl rfl ?_
    refine pz_aload_n hC dX9_spouse_128 0 rfl ?_
    refine pz_getI hC dX9_spouse_129 fa_X9_171 hf (fun v6 hf => ?_)
    exact pz_iretX hC hK dX9_spouse_132 (by decide) (by decide) (fun t hd => ⟨v6, (Option.some.inj hf).symm, rfl, hd⟩)
  refine pz_case (x := p2) (v := (9 : Int32)) hf (fun c9 hf => ?_) (fun c9 hf => ?_)
  · refine pz_tabI (tgt := 133) hC dX9_spouse_32 c9 (by decide) (by decide) rfl rfl ?_
    refine pz_aload_n hC dX9_spouse_133 1 rfl ?_
    refine pz_getR hC dX9_spouse_134 fa_X9_16 hf (fun v6 hf => ?_)
    refine pz_aload_n hC dX9_spouse_137 0 rfl ?_
    refine pz_Vi (As := [.ref v5]) hC hK dX9_spouse_138 py_X3_beginOf pv_X3_beginOf lk_X9_174 hf (fun _ h => mX3_beginOf h) rfl rfl (Nat.le_of_ble_eq_true rfl) ⟨by decide, by decide⟩ ⟨by decide, by decide⟩ (fun x7 hf => ?_)
    exact pz_iretX hC hK dX9_spouse_141 (by decide) (by decide) (fun t hd => ⟨x7, (Option.some.inj hf).symm, rfl, hd⟩)
  refine pz_tabO (tgt := 142) hC dX9_spouse_32 ?_ rfl (T142 _ (Option.some.inj hf).symm)
  have q0 : ¬ p2.toInt = 0 := fun h => c0 (Int32.toInt_inj.mp h)
  have q1 : ¬ p2.toInt = 1 := fun h => c1 (Int32.toInt_inj.mp h)
  have q2 : ¬ p2.toInt = 2 := fun h => c2 (Int32.toInt_inj.mp h)
  have q3 : ¬ p2.toInt = 3 := fun h => c3 (Int32.toInt_inj.mp h)
  have q4 : ¬ p2.toInt = 4 := fun h => c4 (Int32.toInt_inj.mp h)
  have q5 : ¬ p2.toInt = 5 := fun h => c5 (Int32.toInt_inj.mp h)
  have q6 : ¬ p2.toInt = 6 := fun h => c6 (Int32.toInt_inj.mp h)
  have q7 : ¬ p2.toInt = 7 := fun h => c7 (Int32.toInt_inj.mp h)
  have q8 : ¬ p2.toInt = 8 := fun h => c8 (Int32.toInt_inj.mp h)
  have q9 : ¬ p2.toInt = 9 := fun h => c9 (Int32.toInt_inj.mp h)
  omega
