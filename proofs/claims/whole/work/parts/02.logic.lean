/-! ===== a logic over the kit's W: an abstract heap, a judgement that holds in every heap that holds it ===== -/
abbrev pz_E : Type := (Nat × List Value) ⊕ (Nat × Nat × ((Nat → Int32) ⊕ (Nat → Int64) ⊕ (Nat → Option Nat)))
/-- cells by address; addresses of what statics and constants refer to; the heap's size -/
abbrev pz_H : Type := (Nat → Option pz_E) × (Nat → Nat) × Nat
/-- classes' numbers and slots; array classes' numbers; the heap at the law's start; static cells; static addresses; what else the tables say -/
abbrev pz_G : Type := va_G × (Nat → ClassId) × Heap × (Nat → Option pz_E) × (Nat → Nat) × (State → Prop)
abbrev pz_C : Type := Program × Launch × Env × Room × State × MethodId × Array Value × List Frame × Method × Code
abbrev pz_z (G : pz_G) : Nat := G.2.2.1.size
abbrev pz_R (C : pz_C) : Room := C.2.2.2.1
abbrev pz_s (C : pz_C) : State := C.2.2.2.2.1
abbrev pz_m (C : pz_C) : MethodId := C.2.2.2.2.2.1
abbrev pz_as (C : pz_C) : Array Value := C.2.2.2.2.2.2.1
abbrev pz_bl (C : pz_C) : List Frame := C.2.2.2.2.2.2.2.1
abbrev pz_me (C : pz_C) : Method := C.2.2.2.2.2.2.2.2.1
abbrev pz_co (C : pz_C) : Code := C.2.2.2.2.2.2.2.2.2
def pz_A (G : pz_G) : Nat → Prop := fun q => pz_z G ≤ q
def pz_e (G : pz_G) : pz_E → va_E := fun e => match e with
  | .inl o => .inr o
  | .inr (t, n, .inl g) => .inl (G.2.1 t, n, .inl g)
  | .inr (t, n, .inr (.inl g)) => .inl (G.2.1 t, n, .inr (.inl g))
  | .inr (t, n, .inr (.inr g)) => .inl (G.2.1 t, n, .inr (.inr (.inr (.inr g))))
abbrev pz_tys (G : pz_G) : List (ClassId × FieldType) := [(G.2.1 0, .int), (G.2.1 1, .long), (G.2.1 2, .byte), (G.2.1 3, .object "PartedPension$Span"), (G.2.1 4, .object "PartedPension$Spouse"), (G.2.1 5, .object "PartedPension$Plan")]
/-- the heap H holds f -/
def pz_dy : pz_E → Prop := fun e => match e with
  | .inl (ci, _) => ci < 100
  | .inr (t, _, _) => t < 10
def pz_D (G : pz_G) (f : pz_H) (H : Heap) : Prop := f.2.1 = G.2.2.2.2.1 ∧ f.2.2 = H.size ∧ pz_z G ≤ H.size ∧ (∀ a, a < pz_z G → f.1 a = G.2.2.2.1 a) ∧ (∀ a e, pz_z G ≤ a → f.1 a = some e → pz_dy e ∧ va_at G.1 vwCl (a, pz_e G e) H) ∧ ∀ a : Nat, a < pz_z G → H[a]? = G.2.2.1[a]?
/-- words that stay true when the tables grow warmer -/
def pz_wk : Cond → Bool
  | .fieldLinkNest _ _ _ _ _ _ => true
  | .methodLinkNest _ _ _ _ => true
  | w => goodWord w
/-- static cells: classes of constant objects, by 100 and 101: their fields -/
def pz_sT (ci k : Nat) : String × String × String := match ci, k with
  | 100, 0 => ("PartedPension$Verb", "word", "Ljava/lang/String;")
  | 100, 1 => ("PartedPension$Verb", "first", "I")
  | 100, 2 => ("PartedPension$Verb", "second", "I")
  | 100, 3 => ("PartedPension$Verb", "third", "I")
  | 100, 4 => ("PartedPension$Verb", "fourth", "I")
  | 100, _ => ("java/lang/Enum", "ordinal", "I")
  | 101, 0 => ("java/lang/String", "value", "[B")
  | _, _ => ("java/lang/String", "coder", "B")
def pz_sC (ci : Nat) : String := if ci = 100 then "PartedPension$Verb" else "java/lang/String"
def pz_sty (t : Nat) : FieldType := if t = 10 then .int else if t = 11 then .object "PartedPension$Verb" else .byte
def pz_sat (G : pz_G) (U : State) (a : Nat) : pz_E → Prop := fun e => match e with
  | .inl (ci, fs) => 100 ≤ ci ∧ va_O (pz_sC ci) a (pz_A G) U G.2.2.1 ∧ ∀ (k : Nat) (v : Value), fs[k]? = some v → va_OF (pz_sT ci k).1 (pz_sT ci k).2.1 (pz_sT ci k).2.2 v a (pz_A G) U G.2.2.1
  | .inr (t, n, .inl g) => 10 ≤ t ∧ va_T (pz_sty t) a n (fun j => .int (g j)) (pz_A G) U G.2.2.1
  | .inr (_, _, .inr (.inl _)) => False
  | .inr (t, n, .inr (.inr g)) => 10 ≤ t ∧ va_T (pz_sty t) a n (fun j => va_rf (g j)) (pz_A G) U G.2.2.1
/-- the statics that are read: number, class, name, descriptor -/
def pz_sF : List (String × String × String) := [("PartedPension", "TERMS_AT_FIRST", "[I"), ("PartedPension", "SLOT_LEAST", "[I"), ("PartedPension", "SLOT_MOST", "[I"), ("PartedPension$1", "$SwitchMap$PartedPension$Verb", "[I"), ("PartedPension$Verb", "ALL", "[LPartedPension$Verb;")]
/-- the String constants that are read: class, entry, text; their addresses stand behind those of the statics -/
def pz_sK : List (String × Nat × String) := [("PartedPension$Reader", 88, "shared"), ("PartedPension$Reader", 94, "apart")]
/-- the JDK's int statics that are read -/
def pz_sJ : List (String × String × String × Int32) := [("java/lang/String", "COMPACT_STRINGS", "Z", 1)]
def pz_ST (G : pz_G) (U : State) : Prop :=
  (∀ a e, a < pz_z G → G.2.2.2.1 a = some e → pz_sat G U a e) ∧
  (∀ (i : Nat) (q : String × String × String), pz_sF[i]? = some q → va_Z q.1 q.2.1 q.2.2 (.ref (G.2.2.2.2.1 i)) (pz_A G) U G.2.2.1) ∧
  (∀ (i : Nat) (q : String × Nat × String), pz_sK[i]? = some q → vk_R q.1 q.2.1 q.2.2 (G.2.2.2.2.1 (5 + i)) U) ∧
  (∀ (i : Nat) (q : String × String × String × Int32), pz_sJ[i]? = some q → va_Z q.1 q.2.1 q.2.2.1 (.int q.2.2.2) (pz_A G) U G.2.2.1) ∧
  va_Zq "jdk/internal/util/Preconditions" "SIOOBE_FORMATTER" "Ljava/util/function/BiFunction;" (pz_A G) U G.2.2.1
/-- what the tables say -/
def pz_T (G : pz_G) (U : State) : Prop := (∀ w ∈ lw_tbl, pz_wk w = true → va_Nw w U) ∧ va_K G.1 vwCl (pz_tys G) U ∧ pz_ST G U ∧ (∀ i : Nat, 3 ≤ i → i < 6 → ∀ q, (pz_tys G)[i]? = some q → ∀ C : String, q.2 = .object C → va_AO C U) ∧ G.2.2.2.2.2 U ∧ ∀ u V : State, u.WarmedH V.vm → G.2.2.2.2.2 u → G.2.2.2.2.2 V
theorem pz_wk.use {w : Cond} (h : pz_wk w = true) {s U : State} (hW : s.WarmedH U.vm) {A A' : Array Value} (hb : w.before A s = true) : w.before A' U = true := by
  cases w
  case fieldLinkNest => exact va_Nw.use rfl (va_Nw.warmF hW (va_Nw.of rfl hb))
  case methodLinkNest => exact va_Nw.use rfl (va_Nw.warmM hW (va_Nw.of rfl hb))
  all_goals exact word_at hW (good_of_word h) hb
theorem pz_T.wd {G : pz_G} {U : State} (h : pz_T G U) {w : Cond} (hm : w ∈ lw_tbl) (hk : pz_wk w = true) (A : Array Value) : w.before A U = true := pz_wk.use hk (State.WarmedH.refl U) (h.1 w hm hk)
theorem pz_T.ww {G : pz_G} {s U : State} (h : pz_T G s) (hW : s.WarmedH U.vm) {w : Cond} (hm : w ∈ lw_tbl) (hk : pz_wk w = true) (A : Array Value) : w.before A U = true := pz_wk.use hk hW (h.1 w hm hk)
theorem pz_sat.moved {G : pz_G} {u U : State} {a : Nat} {e : pz_E} (hvm : u.vm.Alike U.vm) (h : pz_sat G u a e) : pz_sat G U a e := by
  rcases e with ⟨ci, fs⟩ | ⟨t, n, g | g | g⟩
  · exact ⟨h.1, va_O.moved hvm h.2.1, fun k v hk => va_OF.moved hvm (h.2.2 k v hk)⟩
  · exact ⟨h.1, va_T.moved hvm h.2⟩
  · exact h
  · exact ⟨h.1, va_T.moved hvm h.2⟩
theorem pz_T.warm {G : pz_G} {s U : State} (h : pz_T G s) (hW : s.WarmedH U.vm) : pz_T G U :=
  ⟨fun w hm hk => pz_wk.use hk hW (h.1 w hm hk), va_K.moved hW.alike h.2.1, ⟨fun a e ha he => pz_sat.moved hW.alike (h.2.2.1.1 a e ha he), fun i q hq => va_Z.moved hW.alike (h.2.2.1.2.1 i q hq), fun i q hq => vk_R.warm hW (h.2.2.1.2.2.1 i q hq), fun i q hq => va_Z.moved hW.alike (h.2.2.1.2.2.2.1 i q hq), va_Zq.moved hW.alike h.2.2.1.2.2.2.2⟩, fun i h3 h6 q hq C hC => va_AO.moved hW.alike (h.2.2.2.1 i h3 h6 q hq C hC), h.2.2.2.2.2 s U hW h.2.2.2.2.1, h.2.2.2.2.2⟩
theorem pz_T.same {G : pz_G} {s U : State} (h : pz_T G s) (hv : U.vm = s.vm) : pz_T G U := h.warm (by rw [hv]; exact State.WarmedH.refl s)
/-- what stands fast in a method's walk -/
def pz_OK (G : pz_G) (C : pz_C) (cc : ByteArray) (nL : Nat) (own : String) : Prop := C.1.tables.exec = Jvm.exec ∧ (pz_co C).code = cc ∧ (pz_co C).maxLocals = nL ∧ (pz_s C).vm.findClass own = some (pz_m C).cls ∧ (pz_me C).locks = false ∧ pz_T G (pz_s C)
def pz_W (G : pz_G) (C : pz_C) (nL : Nat) (pc : Nat) (lv : List (Nat × Value)) (st : List Value) (f : pz_H) (n k : Nat) (Q : State → Prop) : Prop :=
  ∀ (H : Heap) (locs : List Loc) (ls : Array Slot), pz_D G f H → (∀ q ∈ locs, pz_A G q.base) → lv_has ls nL lv → W C.1 C.2.1 C.2.2.1 (pz_R C) (pz_s C) (pz_m C) (pz_as C) (pz_bl C) (pz_me C) (pz_co C) H locs n k Q (F0 (pz_m C) pc ls st)
/-- an instruction stands at pc, the next one at pc' -/
def pz_d (cc : ByteArray) (pc len pc' : Nat) (i : Instr) : Prop := decode cc pc = .ok (i, len) ∧ pc + len = pc'
/-- likewise, of a jump to tgt -/
def pz_j (cc : ByteArray) (pc pc' tgt : Nat) (i : Instr) (off : Int) : Prop := decode cc pc = .ok (i, 3) ∧ pc + 3 = pc' ∧ (pc : Int) + off = (tgt : Int)
section PZ
variable {G : pz_G} {C : pz_C} {cc : ByteArray} {nL : Nat} {own : String} {pc pc' : Nat} {lv lv' : List (Nat × Value)} {st : List Value} {f : pz_H} {n k : Nat} {Q : State → Prop}
theorem pz_sub (ks : List Nat) (hl : lv_pick lv ks = lv') (kk : pz_W G C nL pc lv' st f n k Q) : pz_W G C nL pc lv st f n k Q := fun H locs ls hD hF h => kk H locs ls hD hF (lv_sub h ks hl)
theorem pz_widen {n' k' : Nat} (h1 : n ≤ n') (h2 : k ≤ k') (kk : pz_W G C nL pc lv st f n' k' Q) : pz_W G C nL pc lv st f n k Q := fun H locs ls hD hF h => W.widen h1 h2 (kk H locs ls hD hF h)
theorem pz_iconst {i : Int} {v : Int32} (hC : pz_OK G C cc nL own) (d : pz_d cc pc 1 pc' (.iconst i)) (hv : Int32.ofInt i = v) (kk : pz_W G C nL pc' lv (.int v :: st) f n k Q) : pz_W G C nL pc lv st f n k Q := by
  intro H locs ls hD hF hl
  obtain ⟨d1, rfl⟩ := d
  exact lv_iconst hC.1 hC.2.1 d1 hv (kk H locs ls hD hF hl)
theorem pz_bipush {i : Int} {v : Int32} (hC : pz_OK G C cc nL own) (d : pz_d cc pc 2 pc' (.bipush i)) (hv : (Int8.ofInt i).toInt32 = v) (kk : pz_W G C nL pc' lv (.int v :: st) f n k Q) : pz_W G C nL pc lv st f n k Q := by
  intro H locs ls hD hF hl
  obtain ⟨d1, rfl⟩ := d
  exact lv_bipush hC.1 hC.2.1 d1 hv (kk H locs ls hD hF hl)
theorem pz_sipush {i : Int} {v : Int32} (hC : pz_OK G C cc nL own) (d : pz_d cc pc 3 pc' (.sipush i)) (hv : (Int16.ofInt i).toInt32 = v) (kk : pz_W G C nL pc' lv (.int v :: st) f n k Q) : pz_W G C nL pc lv st f n k Q := by
  intro H locs ls hD hF hl
  obtain ⟨d1, rfl⟩ := d
  exact lv_sipush hC.1 hC.2.1 d1 hv (kk H locs ls hD hF hl)
theorem pz_lconst {i : Fin 2} {v : Int64} (hC : pz_OK G C cc nL own) (d : pz_d cc pc 1 pc' (.lconst i)) (hv : Int64.ofNat (i : Nat) = v) (kk : pz_W G C nL pc' lv (.long v :: st) f n k Q) : pz_W G C nL pc lv st f n k Q := by
  intro H locs ls hD hF hl
  obtain ⟨d1, rfl⟩ := d
  exact lv_lconst hC.1 hC.2.1 d1 hv (kk H locs ls hD hF hl)
theorem pz_null  (hC : pz_OK G C cc nL own) (d : pz_d cc pc 1 pc' (.aconst_null))  (kk : pz_W G C nL pc' lv (.null :: st) f n k Q) : pz_W G C nL pc lv st f n k Q := by
  intro H locs ls hD hF hl
  obtain ⟨d1, rfl⟩ := d
  exact lv_null hC.1 hC.2.1 d1 (kk H locs ls hD hF hl)
theorem pz_iload_n {j : Fin 4} {x : Int32} (hC : pz_OK G C cc nL own) (d : pz_d cc pc 1 pc' (.iload_n j)) (q : Nat) (hk : lv[q]? = some ((j : Nat), .int x)) (kk : pz_W G C nL pc' lv (.int x :: st) f n k Q) : pz_W G C nL pc lv st f n k Q := by
  intro H locs ls hD hF hl
  obtain ⟨d1, rfl⟩ := d
  exact lv_iload_n hC.1 hC.2.1 d1 rfl (lv_at hl q hk) (kk H locs ls hD hF hl)
theorem pz_iload {j : Nat} {x : Int32} (hC : pz_OK G C cc nL own) (d : pz_d cc pc 2 pc' (.iload j)) (q : Nat) (hk : lv[q]? = some (j, .int x)) (kk : pz_W G C nL pc' lv (.int x :: st) f n k Q) : pz_W G C nL pc lv st f n k Q := by
  intro H locs ls hD hF hl
  obtain ⟨d1, rfl⟩ := d
  exact lv_iload hC.1 hC.2.1 d1 (lv_at hl q hk) (kk H locs ls hD hF hl)
theorem pz_lload_n {j : Fin 4} {x : Int64} (hC : pz_OK G C cc nL own) (d : pz_d cc pc 1 pc' (.lload_n j)) (q : Nat) (hk : lv[q]? = some ((j : Nat), .long x)) (kk : pz_W G C nL pc' lv (.long x :: st) f n k Q) : pz_W G C nL pc lv st f n k Q := by
  intro H locs ls hD hF hl
  obtain ⟨d1, rfl⟩ := d
  exact lv_lload_n hC.1 hC.2.1 d1 rfl (lv_at hl q hk) (kk H locs ls hD hF hl)
theorem pz_lload {j : Nat} {x : Int64} (hC : pz_OK G C cc nL own) (d : pz_d cc pc 2 pc' (.lload j)) (q : Nat) (hk : lv[q]? = some (j, .long x)) (kk : pz_W G C nL pc' lv (.long x :: st) f n k Q) : pz_W G C nL pc lv st f n k Q := by
  intro H locs ls hD hF hl
  obtain ⟨d1, rfl⟩ := d
  exact lv_lload hC.1 hC.2.1 d1 (lv_at hl q hk) (kk H locs ls hD hF hl)
theorem pz_aload_n {j : Fin 4} {x : Nat} (hC : pz_OK G C cc nL own) (d : pz_d cc pc 1 pc' (.aload_n j)) (q : Nat) (hk : lv[q]? = some ((j : Nat), .ref x)) (kk : pz_W G C nL pc' lv (.ref x :: st) f n k Q) : pz_W G C nL pc lv st f n k Q := by
  intro H locs ls hD hF hl
  obtain ⟨d1, rfl⟩ := d
  exact lv_aload_n hC.1 hC.2.1 d1 rfl (lv_at hl q hk) (kk H locs ls hD hF hl)
theorem pz_aload {j : Nat} {x : Nat} (hC : pz_OK G C cc nL own) (d : pz_d cc pc 2 pc' (.aload j)) (q : Nat) (hk : lv[q]? = some (j, .ref x)) (kk : pz_W G C nL pc' lv (.ref x :: st) f n k Q) : pz_W G C nL pc lv st f n k Q := by
  intro H locs ls hD hF hl
  obtain ⟨d1, rfl⟩ := d
  exact lv_aload hC.1 hC.2.1 d1 (lv_at hl q hk) (kk H locs ls hD hF hl)
theorem pz_aload_nN {j : Fin 4} (hC : pz_OK G C cc nL own) (d : pz_d cc pc 1 pc' (.aload_n j)) (q : Nat) (hk : lv[q]? = some ((j : Nat), .null)) (kk : pz_W G C nL pc' lv (.null :: st) f n k Q) : pz_W G C nL pc lv st f n k Q := by
  intro H locs ls hD hF hl
  obtain ⟨d1, rfl⟩ := d
  exact lv_aload_nN hC.1 hC.2.1 d1 rfl (lv_at hl q hk) (kk H locs ls hD hF hl)
theorem pz_aloadN {j : Nat} (hC : pz_OK G C cc nL own) (d : pz_d cc pc 2 pc' (.aload j)) (q : Nat) (hk : lv[q]? = some (j, .null)) (kk : pz_W G C nL pc' lv (.null :: st) f n k Q) : pz_W G C nL pc lv st f n k Q := by
  intro H locs ls hD hF hl
  obtain ⟨d1, rfl⟩ := d
  exact lv_aloadN hC.1 hC.2.1 d1 (lv_at hl q hk) (kk H locs ls hD hF hl)
theorem pz_istore_n {j : Fin 4} {x : Int32} (hC : pz_OK G C cc nL own) (d : pz_d cc pc 1 pc' (.istore_n j)) (hn : (j : Nat) < nL) (hl' : ((j : Nat), Value.int x) :: lv.filter (fun q => !(q.1 == (j : Nat)) && !(q.1 + 1 == (j : Nat) && q.2.category == 2)) = lv') (kk : pz_W G C nL pc' lv' st f n k Q) : pz_W G C nL pc lv (Value.int x :: st) f n k Q := by
  intro H locs ls hD hF hl
  obtain ⟨d1, rfl⟩ := d
  exact lv_istore_n hC.1 hC.2.1 d1 rfl hl hn hl' (fun ls hl => kk H locs ls hD hF hl)
theorem pz_istore {j : Nat} {x : Int32} (hC : pz_OK G C cc nL own) (d : pz_d cc pc 2 pc' (.istore j)) (hn : j < nL) (hl' : (j, Value.int x) :: lv.filter (fun q => !(q.1 == j) && !(q.1 + 1 == j && q.2.category == 2)) = lv') (kk : pz_W G C nL pc' lv' st f n k Q) : pz_W G C nL pc lv (Value.int x :: st) f n k Q := by
  intro H locs ls hD hF hl
  obtain ⟨d1, rfl⟩ := d
  exact lv_istore hC.1 hC.2.1 d1 hl hn hl' (fun ls hl => kk H locs ls hD hF hl)
theorem pz_lstore_n {j : Fin 4} {x : Int64} (hC : pz_OK G C cc nL own) (d : pz_d cc pc 1 pc' (.lstore_n j)) (hn : (j : Nat) + 1 < nL) (hl' : ((j : Nat), Value.long x) :: lv.filter (fun q => !(q.1 == (j : Nat)) && (!(q.1 == (j : Nat) + 1) && !(q.1 + 1 == (j : Nat) && q.2.category == 2))) = lv') (kk : pz_W G C nL pc' lv' st f n k Q) : pz_W G C nL pc lv (Value.long x :: st) f n k Q := by
  intro H locs ls hD hF hl
  obtain ⟨d1, rfl⟩ := d
  exact lv_lstore_n hC.1 hC.2.1 d1 rfl hl hn hl' (fun ls hl => kk H locs ls hD hF hl)
theorem pz_lstore {j : Nat} {x : Int64} (hC : pz_OK G C cc nL own) (d : pz_d cc pc 2 pc' (.lstore j)) (hn : j + 1 < nL) (hl' : (j, Value.long x) :: lv.filter (fun q => !(q.1 == j) && (!(q.1 == j + 1) && !(q.1 + 1 == j && q.2.category == 2))) = lv') (kk : pz_W G C nL pc' lv' st f n k Q) : pz_W G C nL pc lv (Value.long x :: st) f n k Q := by
  intro H locs ls hD hF hl
  obtain ⟨d1, rfl⟩ := d
  exact lv_lstore hC.1 hC.2.1 d1 hl hn hl' (fun ls hl => kk H locs ls hD hF hl)
theorem pz_astore_n {j : Fin 4} {x : Nat} (hC : pz_OK G C cc nL own) (d : pz_d cc pc 1 pc' (.astore_n j)) (hn : (j : Nat) < nL) (hl' : ((j : Nat), Value.ref x) :: lv.filter (fun q => !(q.1 == (j : Nat)) && !(q.1 + 1 == (j : Nat) && q.2.category == 2)) = lv') (kk : pz_W G C nL pc' lv' st f n k Q) : pz_W G C nL pc lv (Value.ref x :: st) f n k Q := by
  intro H locs ls hD hF hl
  obtain ⟨d1, rfl⟩ := d
  exact lv_astore_n hC.1 hC.2.1 d1 rfl hl hn hl' (fun ls hl => kk H locs ls hD hF hl)
theorem pz_astore {j : Nat} {x : Nat} (hC : pz_OK G C cc nL own) (d : pz_d cc pc 2 pc' (.astore j)) (hn : j < nL) (hl' : (j, Value.ref x) :: lv.filter (fun q => !(q.1 == j) && !(q.1 + 1 == j && q.2.category == 2)) = lv') (kk : pz_W G C nL pc' lv' st f n k Q) : pz_W G C nL pc lv (Value.ref x :: st) f n k Q := by
  intro H locs ls hD hF hl
  obtain ⟨d1, rfl⟩ := d
  exact lv_astore hC.1 hC.2.1 d1 hl hn hl' (fun ls hl => kk H locs ls hD hF hl)
theorem pz_astore_nN {j : Fin 4} (hC : pz_OK G C cc nL own) (d : pz_d cc pc 1 pc' (.astore_n j)) (hn : (j : Nat) < nL) (hl' : ((j : Nat), Value.null) :: lv.filter (fun q => !(q.1 == (j : Nat)) && !(q.1 + 1 == (j : Nat) && q.2.category == 2)) = lv') (kk : pz_W G C nL pc' lv' st f n k Q) : pz_W G C nL pc lv (Value.null :: st) f n k Q := by
  intro H locs ls hD hF hl
  obtain ⟨d1, rfl⟩ := d
  exact lv_astore_nN hC.1 hC.2.1 d1 rfl hl hn hl' (fun ls hl => kk H locs ls hD hF hl)
theorem pz_astoreN {j : Nat} (hC : pz_OK G C cc nL own) (d : pz_d cc pc 2 pc' (.astore j)) (hn : j < nL) (hl' : (j, Value.null) :: lv.filter (fun q => !(q.1 == j) && !(q.1 + 1 == j && q.2.category == 2)) = lv') (kk : pz_W G C nL pc' lv' st f n k Q) : pz_W G C nL pc lv (Value.null :: st) f n k Q := by
  intro H locs ls hD hF hl
  obtain ⟨d1, rfl⟩ := d
  exact lv_astoreN hC.1 hC.2.1 d1 hl hn hl' (fun ls hl => kk H locs ls hD hF hl)
theorem pz_iinc {j : Nat} {i : Int} {x v : Int32} (hC : pz_OK G C cc nL own) (d : pz_d cc pc 3 pc' (.iinc j i)) (q : Nat) (hk : lv[q]? = some (j, .int x)) (hv : x + Int32.ofInt i = v) (hn : j < nL) (hl' : (j, Value.int v) :: lv.filter (fun q => !(q.1 == j) && !(q.1 + 1 == j && q.2.category == 2)) = lv') (kk : pz_W G C nL pc' lv' st f n k Q) : pz_W G C nL pc lv st f n k Q := by
  intro H locs ls hD hF hl
  obtain ⟨d1, rfl⟩ := d
  exact lv_iinc hC.1 hC.2.1 d1 hl hk hv hn hl' (fun ls hl => kk H locs ls hD hF hl)
theorem pz_iadd {x y : Int32} (hC : pz_OK G C cc nL own) (d : pz_d cc pc 1 pc' (.iadd))  (kk : pz_W G C nL pc' lv (.int (x + y) :: st) f n k Q) : pz_W G C nL pc lv (.int y :: .int x :: st) f n k Q := by
  intro H locs ls hD hF hl
  obtain ⟨d1, rfl⟩ := d
  exact lv_iadd hC.1 hC.2.1 d1 (kk H locs ls hD hF hl)
theorem pz_isub {x y : Int32} (hC : pz_OK G C cc nL own) (d : pz_d cc pc 1 pc' (.isub))  (kk : pz_W G C nL pc' lv (.int (x - y) :: st) f n k Q) : pz_W G C nL pc lv (.int y :: .int x :: st) f n k Q := by
  intro H locs ls hD hF hl
  obtain ⟨d1, rfl⟩ := d
  exact lv_isub hC.1 hC.2.1 d1 (kk H locs ls hD hF hl)
theorem pz_imul {x y : Int32} (hC : pz_OK G C cc nL own) (d : pz_d cc pc 1 pc' (.imul))  (kk : pz_W G C nL pc' lv (.int (x * y) :: st) f n k Q) : pz_W G C nL pc lv (.int y :: .int x :: st) f n k Q := by
  intro H locs ls hD hF hl
  obtain ⟨d1, rfl⟩ := d
  exact lv_imul hC.1 hC.2.1 d1 (kk H locs ls hD hF hl)
theorem pz_iand {x y : Int32} (hC : pz_OK G C cc nL own) (d : pz_d cc pc 1 pc' (.iand))  (kk : pz_W G C nL pc' lv (.int (x &&& y) :: st) f n k Q) : pz_W G C nL pc lv (.int y :: .int x :: st) f n k Q := by
  intro H locs ls hD hF hl
  obtain ⟨d1, rfl⟩ := d
  exact lv_iand hC.1 hC.2.1 d1 (kk H locs ls hD hF hl)
theorem pz_ladd {x y : Int64} (hC : pz_OK G C cc nL own) (d : pz_d cc pc 1 pc' (.ladd))  (kk : pz_W G C nL pc' lv (.long (x + y) :: st) f n k Q) : pz_W G C nL pc lv (.long y :: .long x :: st) f n k Q := by
  intro H locs ls hD hF hl
  obtain ⟨d1, rfl⟩ := d
  exact lv_ladd hC.1 hC.2.1 d1 (kk H locs ls hD hF hl)
theorem pz_lsub {x y : Int64} (hC : pz_OK G C cc nL own) (d : pz_d cc pc 1 pc' (.lsub))  (kk : pz_W G C nL pc' lv (.long (x - y) :: st) f n k Q) : pz_W G C nL pc lv (.long y :: .long x :: st) f n k Q := by
  intro H locs ls hD hF hl
  obtain ⟨d1, rfl⟩ := d
  exact lv_lsub hC.1 hC.2.1 d1 (kk H locs ls hD hF hl)
theorem pz_lmul {x y : Int64} (hC : pz_OK G C cc nL own) (d : pz_d cc pc 1 pc' (.lmul))  (kk : pz_W G C nL pc' lv (.long (x * y) :: st) f n k Q) : pz_W G C nL pc lv (.long y :: .long x :: st) f n k Q := by
  intro H locs ls hD hF hl
  obtain ⟨d1, rfl⟩ := d
  exact lv_lmul hC.1 hC.2.1 d1 (kk H locs ls hD hF hl)
theorem pz_ishr {x y : Int32} (hC : pz_OK G C cc nL own) (d : pz_d cc pc 1 pc' (.ishr))  (kk : pz_W G C nL pc' lv (.int (x >>> (y &&& 31)) :: st) f n k Q) : pz_W G C nL pc lv (.int y :: .int x :: st) f n k Q := by
  intro H locs ls hD hF hl
  obtain ⟨d1, rfl⟩ := d
  exact lv_ishr hC.1 hC.2.1 d1 (kk H locs ls hD hF hl)
theorem pz_idiv {α : Type} {x y : Int32} {F : Option α} {r : α} (hC : pz_OK G C cc nL own) (d : pz_d cc pc 1 pc' .idiv) (hf : (if y = 0 then none else F) = some r) (kk : F = some r → pz_W G C nL pc' lv (.int (x / y) :: st) f n k Q) : pz_W G C nL pc lv (.int y :: .int x :: st) f n k Q := by
  intro H locs ls hD hF hl
  obtain ⟨d1, rfl⟩ := d
  by_cases h0 : y = 0
  · rw [if_pos h0] at hf; cases hf
  · rw [if_neg h0] at hf
    exact lv_idiv hC.1 hC.2.1 d1 h0 (kk hf H locs ls hD hF hl)
theorem pz_idivc {x y : Int32} (hC : pz_OK G C cc nL own) (d : pz_d cc pc 1 pc' .idiv) (h0 : ¬ y = 0) (kk : pz_W G C nL pc' lv (.int (x / y) :: st) f n k Q) : pz_W G C nL pc lv (.int y :: .int x :: st) f n k Q := by
  intro H locs ls hD hF hl
  obtain ⟨d1, rfl⟩ := d
  exact lv_idiv hC.1 hC.2.1 d1 h0 (kk H locs ls hD hF hl)
theorem pz_irem {α : Type} {x y : Int32} {F : Option α} {r : α} (hC : pz_OK G C cc nL own) (d : pz_d cc pc 1 pc' .irem) (hf : (if y = 0 then none else F) = some r) (kk : F = some r → pz_W G C nL pc' lv (.int (x - x / y * y) :: st) f n k Q) : pz_W G C nL pc lv (.int y :: .int x :: st) f n k Q := by
  intro H locs ls hD hF hl
  obtain ⟨d1, rfl⟩ := d
  by_cases h0 : y = 0
  · rw [if_pos h0] at hf; cases hf
  · rw [if_neg h0] at hf
    exact lv_irem hC.1 hC.2.1 d1 h0 (kk hf H locs ls hD hF hl)
theorem pz_iremc {x y : Int32} (hC : pz_OK G C cc nL own) (d : pz_d cc pc 1 pc' .irem) (h0 : ¬ y = 0) (kk : pz_W G C nL pc' lv (.int (x - x / y * y) :: st) f n k Q) : pz_W G C nL pc lv (.int y :: .int x :: st) f n k Q := by
  intro H locs ls hD hF hl
  obtain ⟨d1, rfl⟩ := d
  exact lv_irem hC.1 hC.2.1 d1 h0 (kk H locs ls hD hF hl)
theorem pz_ldiv {α : Type} {x y : Int64} {F : Option α} {r : α} (hC : pz_OK G C cc nL own) (d : pz_d cc pc 1 pc' .ldiv) (hf : (if y = 0 then none else F) = some r) (kk : F = some r → pz_W G C nL pc' lv (.long (x / y) :: st) f n k Q) : pz_W G C nL pc lv (.long y :: .long x :: st) f n k Q := by
  intro H locs ls hD hF hl
  obtain ⟨d1, rfl⟩ := d
  by_cases h0 : y = 0
  · rw [if_pos h0] at hf; cases hf
  · rw [if_neg h0] at hf
    exact lv_ldiv hC.1 hC.2.1 d1 h0 (kk hf H locs ls hD hF hl)
theorem pz_ldivc {x y : Int64} (hC : pz_OK G C cc nL own) (d : pz_d cc pc 1 pc' .ldiv) (h0 : ¬ y = 0) (kk : pz_W G C nL pc' lv (.long (x / y) :: st) f n k Q) : pz_W G C nL pc lv (.long y :: .long x :: st) f n k Q := by
  intro H locs ls hD hF hl
  obtain ⟨d1, rfl⟩ := d
  exact lv_ldiv hC.1 hC.2.1 d1 h0 (kk H locs ls hD hF hl)
theorem pz_i2l {x : Int32} (hC : pz_OK G C cc nL own) (d : pz_d cc pc 1 pc' (.i2l))  (kk : pz_W G C nL pc' lv (.long x.toInt64 :: st) f n k Q) : pz_W G C nL pc lv (.int x :: st) f n k Q := by
  intro H locs ls hD hF hl
  obtain ⟨d1, rfl⟩ := d
  exact lv_i2l hC.1 hC.2.1 d1 rfl (kk H locs ls hD hF hl)
theorem pz_l2i {x : Int64} (hC : pz_OK G C cc nL own) (d : pz_d cc pc 1 pc' (.l2i))  (kk : pz_W G C nL pc' lv (.int x.toInt32 :: st) f n k Q) : pz_W G C nL pc lv (.long x :: st) f n k Q := by
  intro H locs ls hD hF hl
  obtain ⟨d1, rfl⟩ := d
  exact lv_l2i hC.1 hC.2.1 d1 rfl (kk H locs ls hD hF hl)
theorem pz_i2b {x : Int32} (hC : pz_OK G C cc nL own) (d : pz_d cc pc 1 pc' (.i2b))  (kk : pz_W G C nL pc' lv (.int x.toInt8.toInt32 :: st) f n k Q) : pz_W G C nL pc lv (.int x :: st) f n k Q := by
  intro H locs ls hD hF hl
  obtain ⟨d1, rfl⟩ := d
  exact lv_i2b hC.1 hC.2.1 d1 rfl (kk H locs ls hD hF hl)
theorem pz_iushr {x y : Int32} (hC : pz_OK G C cc nL own) (d : pz_d cc pc 1 pc' (.iushr))  (kk : pz_W G C nL pc' lv (.int (x.toUInt32 >>> (y.toUInt32 &&& Int32.toUInt32 31)).toInt32 :: st) f n k Q) : pz_W G C nL pc lv (.int y :: .int x :: st) f n k Q := by
  intro H locs ls hD hF hl
  obtain ⟨d1, rfl⟩ := d
  exact lv_iushr hC.1 hC.2.1 d1 rfl (kk H locs ls hD hF hl)
theorem pz_lcmp {x y : Int64} (hC : pz_OK G C cc nL own) (d : pz_d cc pc 1 pc' (.lcmp))  (kk : pz_W G C nL pc' lv (.int (lg_cmp x y) :: st) f n k Q) : pz_W G C nL pc lv (.long y :: .long x :: st) f n k Q := by
  intro H locs ls hD hF hl
  obtain ⟨d1, rfl⟩ := d
  exact W.lcmp hC.1 hC.2.1 d1 (kk H locs ls hD hF hl)
theorem pz_dup {v : Value} (hC : pz_OK G C cc nL own) (d : pz_d cc pc 1 pc' (.dup)) (hv : v.category = 1) (kk : pz_W G C nL pc' lv (v :: v :: st) f n k Q) : pz_W G C nL pc lv (v :: st) f n k Q := by
  intro H locs ls hD hF hl
  obtain ⟨d1, rfl⟩ := d
  exact lv_dup hC.1 hC.2.1 d1 hv (kk H locs ls hD hF hl)
theorem pz_dup2 {u v : Value} (hC : pz_OK G C cc nL own) (d : pz_d cc pc 1 pc' (.dup2)) (hu : u.category = 1) (hv : v.category = 1) (kk : pz_W G C nL pc' lv (u :: v :: u :: v :: st) f n k Q) : pz_W G C nL pc lv (u :: v :: st) f n k Q := by
  intro H locs ls hD hF hl
  obtain ⟨d1, rfl⟩ := d
  exact lv_dup2_11 hC.1 hC.2.1 d1 hu hv (kk H locs ls hD hF hl)
theorem pz_if_eq {α : Type} {x : Int32} {A B : Option α} {r : α} {tgt : Nat} {off : Int} (hC : pz_OK G C cc nL own) (d : pz_j cc pc pc' tgt (.ifCond .eq off) off) (hf : (if x = 0 then A else B) = some r) (kt : x = 0 → A = some r → pz_W G C nL tgt lv st f n k Q) (kf : ¬ x = 0 → B = some r → pz_W G C nL pc' lv st f n k Q) : pz_W G C nL pc lv (.int x :: st) f n k Q := by
  intro H locs ls hD hF hl
  obtain ⟨d1, rfl, ht⟩ := d
  exact lv_if_eq hC.1 hC.2.1 d1 ht (fun c => kt c (by rw [if_pos c] at hf; exact hf) H locs ls hD hF hl) (fun c => kf c (by rw [if_neg c] at hf; exact hf) H locs ls hD hF hl)
theorem pz_if_ne {α : Type} {x : Int32} {A B : Option α} {r : α} {tgt : Nat} {off : Int} (hC : pz_OK G C cc nL own) (d : pz_j cc pc pc' tgt (.ifCond .ne off) off) (hf : (if x = 0 then A else B) = some r) (kt : ¬ x = 0 → B = some r → pz_W G C nL tgt lv st f n k Q) (kf : x = 0 → A = some r → pz_W G C nL pc' lv st f n k Q) : pz_W G C nL pc lv (.int x :: st) f n k Q := by
  intro H locs ls hD hF hl
  obtain ⟨d1, rfl, ht⟩ := d
  exact lv_if_ne hC.1 hC.2.1 d1 ht (fun c => kt c (by rw [if_neg c] at hf; exact hf) H locs ls hD hF hl) (fun c => kf c (by rw [if_pos c] at hf; exact hf) H locs ls hD hF hl)
theorem pz_if_lt {α : Type} {x : Int32} {A B : Option α} {r : α} {tgt : Nat} {off : Int} (hC : pz_OK G C cc nL own) (d : pz_j cc pc pc' tgt (.ifCond .lt off) off) (hf : (if x < 0 then A else B) = some r) (kt : x < 0 → A = some r → pz_W G C nL tgt lv st f n k Q) (kf : ¬ x < 0 → B = some r → pz_W G C nL pc' lv st f n k Q) : pz_W G C nL pc lv (.int x :: st) f n k Q := by
  intro H locs ls hD hF hl
  obtain ⟨d1, rfl, ht⟩ := d
  exact lv_if_lt hC.1 hC.2.1 d1 ht (fun c => kt c (by rw [if_pos c] at hf; exact hf) H locs ls hD hF hl) (fun c => kf c (by rw [if_neg c] at hf; exact hf) H locs ls hD hF hl)
theorem pz_if_ge {α : Type} {x : Int32} {A B : Option α} {r : α} {tgt : Nat} {off : Int} (hC : pz_OK G C cc nL own) (d : pz_j cc pc pc' tgt (.ifCond .ge off) off) (hf : (if 0 ≤ x then A else B) = some r) (kt : 0 ≤ x → A = some r → pz_W G C nL tgt lv st f n k Q) (kf : ¬ 0 ≤ x → B = some r → pz_W G C nL pc' lv st f n k Q) : pz_W G C nL pc lv (.int x :: st) f n k Q := by
  intro H locs ls hD hF hl
  obtain ⟨d1, rfl, ht⟩ := d
  exact lv_if_ge hC.1 hC.2.1 d1 ht (fun c => kt c (by rw [if_pos c] at hf; exact hf) H locs ls hD hF hl) (fun c => kf c (by rw [if_neg c] at hf; exact hf) H locs ls hD hF hl)
theorem pz_if_gt {α : Type} {x : Int32} {A B : Option α} {r : α} {tgt : Nat} {off : Int} (hC : pz_OK G C cc nL own) (d : pz_j cc pc pc' tgt (.ifCond .gt off) off) (hf : (if 0 < x then A else B) = some r) (kt : 0 < x → A = some r → pz_W G C nL tgt lv st f n k Q) (kf : ¬ 0 < x → B = some r → pz_W G C nL pc' lv st f n k Q) : pz_W G C nL pc lv (.int x :: st) f n k Q := by
  intro H locs ls hD hF hl
  obtain ⟨d1, rfl, ht⟩ := d
  exact lv_if_gt hC.1 hC.2.1 d1 ht (fun c => kt c (by rw [if_pos c] at hf; exact hf) H locs ls hD hF hl) (fun c => kf c (by rw [if_neg c] at hf; exact hf) H locs ls hD hF hl)
theorem pz_if_le {α : Type} {x : Int32} {A B : Option α} {r : α} {tgt : Nat} {off : Int} (hC : pz_OK G C cc nL own) (d : pz_j cc pc pc' tgt (.ifCond .le off) off) (hf : (if x ≤ 0 then A else B) = some r) (kt : x ≤ 0 → A = some r → pz_W G C nL tgt lv st f n k Q) (kf : ¬ x ≤ 0 → B = some r → pz_W G C nL pc' lv st f n k Q) : pz_W G C nL pc lv (.int x :: st) f n k Q := by
  intro H locs ls hD hF hl
  obtain ⟨d1, rfl, ht⟩ := d
  exact lv_if_le hC.1 hC.2.1 d1 ht (fun c => kt c (by rw [if_pos c] at hf; exact hf) H locs ls hD hF hl) (fun c => kf c (by rw [if_neg c] at hf; exact hf) H locs ls hD hF hl)
theorem pz_icmp_eq {α : Type} {x y : Int32} {A B : Option α} {r : α} {tgt : Nat} {off : Int} (hC : pz_OK G C cc nL own) (d : pz_j cc pc pc' tgt (.if_icmp .eq off) off) (hf : (if x = y then A else B) = some r) (kt : x = y → A = some r → pz_W G C nL tgt lv st f n k Q) (kf : ¬ x = y → B = some r → pz_W G C nL pc' lv st f n k Q) : pz_W G C nL pc lv (.int y :: .int x :: st) f n k Q := by
  intro H locs ls hD hF hl
  obtain ⟨d1, rfl, ht⟩ := d
  exact lv_icmp_eq hC.1 hC.2.1 d1 ht (fun c => kt c (by rw [if_pos c] at hf; exact hf) H locs ls hD hF hl) (fun c => kf c (by rw [if_neg c] at hf; exact hf) H locs ls hD hF hl)
theorem pz_icmp_ne {α : Type} {x y : Int32} {A B : Option α} {r : α} {tgt : Nat} {off : Int} (hC : pz_OK G C cc nL own) (d : pz_j cc pc pc' tgt (.if_icmp .ne off) off) (hf : (if x = y then A else B) = some r) (kt : ¬ x = y → B = some r → pz_W G C nL tgt lv st f n k Q) (kf : x = y → A = some r → pz_W G C nL pc' lv st f n k Q) : pz_W G C nL pc lv (.int y :: .int x :: st) f n k Q := by
  intro H locs ls hD hF hl
  obtain ⟨d1, rfl, ht⟩ := d
  exact lv_icmp_ne hC.1 hC.2.1 d1 ht (fun c => kt c (by rw [if_neg c] at hf; exact hf) H locs ls hD hF hl) (fun c => kf c (by rw [if_pos c] at hf; exact hf) H locs ls hD hF hl)
theorem pz_icmp_lt {α : Type} {x y : Int32} {A B : Option α} {r : α} {tgt : Nat} {off : Int} (hC : pz_OK G C cc nL own) (d : pz_j cc pc pc' tgt (.if_icmp .lt off) off) (hf : (if x < y then A else B) = some r) (kt : x < y → A = some r → pz_W G C nL tgt lv st f n k Q) (kf : ¬ x < y → B = some r → pz_W G C nL pc' lv st f n k Q) : pz_W G C nL pc lv (.int y :: .int x :: st) f n k Q := by
  intro H locs ls hD hF hl
  obtain ⟨d1, rfl, ht⟩ := d
  exact lv_icmp_lt hC.1 hC.2.1 d1 ht (fun c => kt c (by rw [if_pos c] at hf; exact hf) H locs ls hD hF hl) (fun c => kf c (by rw [if_neg c] at hf; exact hf) H locs ls hD hF hl)
theorem pz_icmp_ge {α : Type} {x y : Int32} {A B : Option α} {r : α} {tgt : Nat} {off : Int} (hC : pz_OK G C cc nL own) (d : pz_j cc pc pc' tgt (.if_icmp .ge off) off) (hf : (if y ≤ x then A else B) = some r) (kt : y ≤ x → A = some r → pz_W G C nL tgt lv st f n k Q) (kf : ¬ y ≤ x → B = some r → pz_W G C nL pc' lv st f n k Q) : pz_W G C nL pc lv (.int y :: .int x :: st) f n k Q := by
  intro H locs ls hD hF hl
  obtain ⟨d1, rfl, ht⟩ := d
  exact lv_icmp_ge hC.1 hC.2.1 d1 ht (fun c => kt c (by rw [if_pos c] at hf; exact hf) H locs ls hD hF hl) (fun c => kf c (by rw [if_neg c] at hf; exact hf) H locs ls hD hF hl)
theorem pz_icmp_gt {α : Type} {x y : Int32} {A B : Option α} {r : α} {tgt : Nat} {off : Int} (hC : pz_OK G C cc nL own) (d : pz_j cc pc pc' tgt (.if_icmp .gt off) off) (hf : (if y < x then A else B) = some r) (kt : y < x → A = some r → pz_W G C nL tgt lv st f n k Q) (kf : ¬ y < x → B = some r → pz_W G C nL pc' lv st f n k Q) : pz_W G C nL pc lv (.int y :: .int x :: st) f n k Q := by
  intro H locs ls hD hF hl
  obtain ⟨d1, rfl, ht⟩ := d
  exact lv_icmp_gt hC.1 hC.2.1 d1 ht (fun c => kt c (by rw [if_pos c] at hf; exact hf) H locs ls hD hF hl) (fun c => kf c (by rw [if_neg c] at hf; exact hf) H locs ls hD hF hl)
theorem pz_icmp_le {α : Type} {x y : Int32} {A B : Option α} {r : α} {tgt : Nat} {off : Int} (hC : pz_OK G C cc nL own) (d : pz_j cc pc pc' tgt (.if_icmp .le off) off) (hf : (if x ≤ y then A else B) = some r) (kt : x ≤ y → A = some r → pz_W G C nL tgt lv st f n k Q) (kf : ¬ x ≤ y → B = some r → pz_W G C nL pc' lv st f n k Q) : pz_W G C nL pc lv (.int y :: .int x :: st) f n k Q := by
  intro H locs ls hD hF hl
  obtain ⟨d1, rfl, ht⟩ := d
  exact lv_icmp_le hC.1 hC.2.1 d1 ht (fun c => kt c (by rw [if_pos c] at hf; exact hf) H locs ls hD hF hl) (fun c => kf c (by rw [if_neg c] at hf; exact hf) H locs ls hD hF hl)
theorem pz_goto {tgt : Nat} {off : Int} (hC : pz_OK G C cc nL own) (d : pz_j cc pc pc' tgt (.goto off) off) (kk : pz_W G C nL tgt lv st f n k Q) : pz_W G C nL pc lv st f n k Q := by
  intro H locs ls hD hF hl
  obtain ⟨d1, rfl, ht⟩ := d
  exact lv_goto hC.1 hC.2.1 d1 ht (kk H locs ls hD hF hl)
theorem pz_ifnonnull {x tgt : Nat} {off : Int} (hC : pz_OK G C cc nL own) (d : pz_j cc pc pc' tgt (.ifnonnull off) off) (kk : pz_W G C nL tgt lv st f n k Q) : pz_W G C nL pc lv (.ref x :: st) f n k Q := by
  intro H locs ls hD hF hl
  obtain ⟨d1, rfl, ht⟩ := d
  exact lv_ifnonnull hC.1 hC.2.1 d1 ht (kk H locs ls hD hF hl)
theorem pz_ifnonnullN {tgt : Nat} {off : Int} (hC : pz_OK G C cc nL own) (d : pz_j cc pc pc' tgt (.ifnonnull off) off) (kk : pz_W G C nL pc' lv st f n k Q) : pz_W G C nL pc lv (.null :: st) f n k Q := by
  intro H locs ls hD hF hl
  obtain ⟨d1, rfl, ht⟩ := d
  exact lv_ifnonnullN hC.1 hC.2.1 d1 (kk H locs ls hD hF hl)
theorem pz_ldc {i : Nat} {v : Int32} (hC : pz_OK G C cc nL own) (d : pz_d cc pc 2 pc' (.ldc i)) (hw : Cond.constant own i v ∈ lw_tbl) (kk : pz_W G C nL pc' lv (.int v :: st) f n k Q) : pz_W G C nL pc lv st f n k Q := by
  intro H locs ls hD hF hl
  obtain ⟨d1, rfl⟩ := d
  exact lv_ldc hC.1 hC.2.1 hC.2.2.2.1 (hC.2.2.2.2.2.wd hw rfl _) d1 (kk H locs ls hD hF hl)
theorem pz_ldc2 {i : Nat} {v : Int64} (hC : pz_OK G C cc nL own) (d : pz_d cc pc 3 pc' (.ldc2_w i)) (hw : Cond.constantLong own i v ∈ lw_tbl) (kk : pz_W G C nL pc' lv (.long v :: st) f n k Q) : pz_W G C nL pc lv st f n k Q := by
  intro H locs ls hD hF hl
  obtain ⟨d1, rfl⟩ := d
  exact lv_ldc2 hC.1 hC.2.1 hC.2.2.2.1 (hC.2.2.2.2.2.wd hw rfl _) d1 (kk H locs ls hD hF hl)
end PZ
