/-! ===== pure reads and writes of the abstract heap ===== -/
def pz_up (f : pz_H) (a : Nat) (e : pz_E) : pz_H := (va_up f.1 a (some e), f.2)
def pz_nw (f : pz_H) (e : pz_E) : pz_H := (va_up f.1 f.2.2 (some e), f.2.1, f.2.2 + 1)
def pz_is (f : pz_H) (a ci : Nat) : Option Unit := match f.1 a with
  | some (.inl (c, _)) => if c = ci then some () else none
  | _ => none
def pz_gV (f : pz_H) (a ci j : Nat) : Option Value := match f.1 a with
  | some (.inl (c, fs)) => if c = ci then fs[j]? else none
  | _ => none
def pz_gI (f : pz_H) (a ci j : Nat) : Option Int32 := match pz_gV f a ci j with
  | some (.int v) => some v
  | _ => none
def pz_gR (f : pz_H) (a ci j : Nat) : Option Nat := match pz_gV f a ci j with
  | some (.ref q) => some q
  | _ => none
def pz_sV (f : pz_H) (a ci j : Nat) (v : Value) : Option pz_H := match f.1 a with
  | some (.inl (c, fs)) => if c = ci ∧ j < fs.length then some (pz_up f a (.inl (c, fs.set j v))) else none
  | _ => none
def pz_ok (i : Int32) (n : Nat) : Prop := ¬ (i < 0 ∨ n ≤ i.toNatClampNeg)
def pz_aI (f : pz_H) (a t : Nat) (i : Int32) : Option Int32 := match f.1 a with
  | some (.inr (t', n, .inl g)) => if t' = t ∧ ¬ (i < 0 ∨ n ≤ i.toNatClampNeg) then some (g i.toNatClampNeg) else none
  | _ => none
def pz_aL (f : pz_H) (a t : Nat) (i : Int32) : Option Int64 := match f.1 a with
  | some (.inr (t', n, .inr (.inl g))) => if t' = t ∧ ¬ (i < 0 ∨ n ≤ i.toNatClampNeg) then some (g i.toNatClampNeg) else none
  | _ => none
def pz_aR (f : pz_H) (a t : Nat) (i : Int32) : Option Nat := match f.1 a with
  | some (.inr (t', n, .inr (.inr g))) => if t' = t ∧ ¬ (i < 0 ∨ n ≤ i.toNatClampNeg) then g i.toNatClampNeg else none
  | _ => none
def pz_tI (f : pz_H) (a t : Nat) (i : Int32) (x : Int32) : Option pz_H := match f.1 a with
  | some (.inr (t', n, .inl g)) => if t' = t ∧ ¬ (i < 0 ∨ n ≤ i.toNatClampNeg) then some (pz_up f a (.inr (t, n, .inl (upd g i.toNatClampNeg x)))) else none
  | _ => none
def pz_tL (f : pz_H) (a t : Nat) (i : Int32) (x : Int64) : Option pz_H := match f.1 a with
  | some (.inr (t', n, .inr (.inl g))) => if t' = t ∧ ¬ (i < 0 ∨ n ≤ i.toNatClampNeg) then some (pz_up f a (.inr (t, n, .inr (.inl (vp_updL g i.toNatClampNeg x))))) else none
  | _ => none
def pz_tR (f : pz_H) (a t ci : Nat) (i : Int32) (x : Nat) : Option pz_H := match f.1 a with
  | some (.inr (t', n, .inr (.inr g))) => if t' = t ∧ ¬ (i < 0 ∨ n ≤ i.toNatClampNeg) ∧ pz_is f x ci = some () then some (pz_up f a (.inr (t, n, .inr (.inr (va_up g i.toNatClampNeg (some x)))))) else none
  | _ => none
def pz_ln (f : pz_H) (a t : Nat) : Option Int32 := match f.1 a with
  | some (.inr (t', n, _)) => if t' = t then some (Int32.ofNat n) else none
  | _ => none
/-- a boolean's int -/
def pz_b (x : Int32) : Option Int32 := if x &&& 1 = x then some x else none
theorem pz_bd {α β : Type} {F : Option α} {g : α → Option β} {r : β} (h : F.bind g = some r) : ∃ x, F = some x ∧ g x = some r := Option.bind_eq_some_iff.mp h
theorem pz_is_of {f : pz_H} {a ci : Nat} (h : pz_is f a ci = some ()) : ∃ fs, f.1 a = some (.inl (ci, fs)) := by
  unfold pz_is at h
  split at h
  · rename_i c fs h1
    by_cases hc : c = ci
    · subst hc; exact ⟨fs, h1⟩
    · rw [if_neg hc] at h; cases h
  · cases h
theorem pz_gV_of {f : pz_H} {a ci j : Nat} {v : Value} (h : pz_gV f a ci j = some v) : ∃ fs, f.1 a = some (.inl (ci, fs)) ∧ fs[j]? = some v := by
  unfold pz_gV at h
  split at h
  · rename_i c fs h1
    by_cases hc : c = ci
    · subst hc; rw [if_pos rfl] at h; exact ⟨fs, h1, h⟩
    · rw [if_neg hc] at h; cases h
  · cases h
theorem pz_gI_of {f : pz_H} {a ci j : Nat} {v : Int32} (h : pz_gI f a ci j = some v) : pz_gV f a ci j = some (.int v) := by
  unfold pz_gI at h
  split at h
  · rename_i x h1; cases h; exact h1
  · cases h
theorem pz_gR_of {f : pz_H} {a ci j : Nat} {v : Nat} (h : pz_gR f a ci j = some v) : pz_gV f a ci j = some (.ref v) := by
  unfold pz_gR at h
  split at h
  · rename_i x h1; cases h; exact h1
  · cases h
theorem pz_sV_of {f f' : pz_H} {a ci j : Nat} {v : Value} (h : pz_sV f a ci j v = some f') : ∃ fs, f.1 a = some (.inl (ci, fs)) ∧ j < fs.length ∧ f' = pz_up f a (.inl (ci, fs.set j v)) := by
  unfold pz_sV at h
  split at h
  · rename_i c fs h1
    by_cases hc : c = ci ∧ j < fs.length
    · obtain ⟨rfl, h2⟩ := hc; rw [if_pos ⟨rfl, h2⟩] at h; cases h; exact ⟨fs, h1, h2, rfl⟩
    · rw [if_neg hc] at h; cases h
  · cases h
theorem pz_aI_of {f : pz_H} {a t : Nat} {i v : Int32} (h : pz_aI f a t i = some v) : ∃ n g, f.1 a = some (.inr (t, n, .inl g)) ∧ vp_in i n ∧ v = g i.toNatClampNeg := by
  unfold pz_aI at h
  split at h
  · rename_i t' n g h1
    by_cases hc : t' = t ∧ ¬ (i < 0 ∨ n ≤ i.toNatClampNeg)
    · obtain ⟨rfl, h2⟩ := hc; rw [if_pos ⟨rfl, h2⟩] at h; cases h; exact ⟨n, g, h1, h2, rfl⟩
    · rw [if_neg hc] at h; cases h
  · cases h
theorem pz_aL_of {f : pz_H} {a t : Nat} {i : Int32} {v : Int64} (h : pz_aL f a t i = some v) : ∃ n g, f.1 a = some (.inr (t, n, .inr (.inl g))) ∧ vp_in i n ∧ v = g i.toNatClampNeg := by
  unfold pz_aL at h
  split at h
  · rename_i t' n g h1
    by_cases hc : t' = t ∧ ¬ (i < 0 ∨ n ≤ i.toNatClampNeg)
    · obtain ⟨rfl, h2⟩ := hc; rw [if_pos ⟨rfl, h2⟩] at h; cases h; exact ⟨n, g, h1, h2, rfl⟩
    · rw [if_neg hc] at h; cases h
  · cases h
theorem pz_aR_of {f : pz_H} {a t : Nat} {i : Int32} {v : Nat} (h : pz_aR f a t i = some v) : ∃ n g, f.1 a = some (.inr (t, n, .inr (.inr g))) ∧ vp_in i n ∧ g i.toNatClampNeg = some v := by
  unfold pz_aR at h
  split at h
  · rename_i t' n g h1
    by_cases hc : t' = t ∧ ¬ (i < 0 ∨ n ≤ i.toNatClampNeg)
    · obtain ⟨rfl, h2⟩ := hc; rw [if_pos ⟨rfl, h2⟩] at h; exact ⟨n, g, h1, h2, h⟩
    · rw [if_neg hc] at h; cases h
  · cases h
theorem pz_tI_of {f f' : pz_H} {a t : Nat} {i x : Int32} (h : pz_tI f a t i x = some f') : ∃ n g, f.1 a = some (.inr (t, n, .inl g)) ∧ vp_in i n ∧ f' = pz_up f a (.inr (t, n, .inl (upd g i.toNatClampNeg x))) := by
  unfold pz_tI at h
  split at h
  · rename_i t' n g h1
    by_cases hc : t' = t ∧ ¬ (i < 0 ∨ n ≤ i.toNatClampNeg)
    · obtain ⟨rfl, h2⟩ := hc; rw [if_pos ⟨rfl, h2⟩] at h; cases h; exact ⟨n, g, h1, h2, rfl⟩
    · rw [if_neg hc] at h; cases h
  · cases h
theorem pz_tL_of {f f' : pz_H} {a t : Nat} {i : Int32} {x : Int64} (h : pz_tL f a t i x = some f') : ∃ n g, f.1 a = some (.inr (t, n, .inr (.inl g))) ∧ vp_in i n ∧ f' = pz_up f a (.inr (t, n, .inr (.inl (vp_updL g i.toNatClampNeg x)))) := by
  unfold pz_tL at h
  split at h
  · rename_i t' n g h1
    by_cases hc : t' = t ∧ ¬ (i < 0 ∨ n ≤ i.toNatClampNeg)
    · obtain ⟨rfl, h2⟩ := hc; rw [if_pos ⟨rfl, h2⟩] at h; cases h; exact ⟨n, g, h1, h2, rfl⟩
    · rw [if_neg hc] at h; cases h
  · cases h
theorem pz_tR_of {f f' : pz_H} {a t ci : Nat} {i : Int32} {x : Nat} (h : pz_tR f a t ci i x = some f') : ∃ n g, f.1 a = some (.inr (t, n, .inr (.inr g))) ∧ vp_in i n ∧ pz_is f x ci = some () ∧ f' = pz_up f a (.inr (t, n, .inr (.inr (va_up g i.toNatClampNeg (some x))))) := by
  unfold pz_tR at h
  split at h
  · rename_i t' n g h1
    by_cases hc : t' = t ∧ ¬ (i < 0 ∨ n ≤ i.toNatClampNeg) ∧ pz_is f x ci = some ()
    · obtain ⟨rfl, h2, h3⟩ := hc; rw [if_pos ⟨rfl, h2, h3⟩] at h; cases h; exact ⟨n, g, h1, h2, h3, rfl⟩
    · rw [if_neg hc] at h; cases h
  · cases h
theorem pz_ln_of {f : pz_H} {a t : Nat} {v : Int32} (h : pz_ln f a t = some v) : ∃ n g, f.1 a = some (.inr (t, n, g)) ∧ v = Int32.ofNat n := by
  unfold pz_ln at h
  split at h
  · rename_i t' n g h1
    by_cases hc : t' = t
    · subst hc; rw [if_pos rfl] at h; cases h; exact ⟨n, g, h1, rfl⟩
    · rw [if_neg hc] at h; cases h
  · cases h
/-! ===== the heap that holds it ===== -/
theorem pz_D.dyn {G : pz_G} {f : pz_H} {H : Heap} {U : State} {a ci : Nat} {fs : List Value} (hD : pz_D G f H) (hT : pz_T G U) (h : f.1 a = some (.inl (ci, fs))) (hc : ci < 100) : pz_z G ≤ a ∧ va_at G.1 vwCl (a, .inr (ci, fs)) H := by
  by_cases ha : a < pz_z G
  · have h1 := hT.2.2.1.1 a _ ha (by rw [← hD.2.2.2.1 a ha]; exact h)
    exact absurd h1.1 (by omega)
  · exact ⟨by omega, (hD.2.2.2.2.1 a _ (by omega) h).2⟩
theorem pz_D.dynA {G : pz_G} {f : pz_H} {H : Heap} {U : State} {a t n : Nat} {g : (Nat → Int32) ⊕ (Nat → Int64) ⊕ (Nat → Option Nat)} (hD : pz_D G f H) (hT : pz_T G U) (h : f.1 a = some (.inr (t, n, g))) (hc : t < 10) : pz_z G ≤ a ∧ va_at G.1 vwCl (a, pz_e G (.inr (t, n, g))) H := by
  by_cases ha : a < pz_z G
  · have h1 := hT.2.2.1.1 a _ ha (by rw [← hD.2.2.2.1 a ha]; exact h)
    rcases g with g | g | g
    · exact absurd h1.1 (by omega)
    · exact absurd h1 id
    · exact absurd h1.1 (by omega)
  · exact ⟨by omega, (hD.2.2.2.2.1 a _ (by omega) h).2⟩
theorem pz_D.one {G : pz_G} {H : Heap} {a : Nat} {e : va_E} (h : va_at G.1 vwCl (a, e) H) : va_P G.1 vwCl [(a, e)] H := by
  intro k q hk
  match k, hk with
  | 0, hk => cases hk; exact h
  | k + 1, hk => simp at hk
theorem pz_D.set {G : pz_G} {f : pz_H} {H H1 : Heap} {a : Nat} {e : pz_E} (hD : pz_D G f H) (ha : pz_z G ≤ a) (hdy : pz_dy e) (he : va_at G.1 vwCl (a, pz_e G e) H1) (hz : H1.size = H.size) (hq : ∀ q, q ≠ a → H1[q]? = H[q]?) : pz_D G (pz_up f a e) H1 := by
  obtain ⟨h1, h2, h3, h4, h5, h6⟩ := hD
  refine ⟨h1, by rw [hz]; exact h2, by rw [hz]; exact h3, fun q hql => ?_, fun q e' hql he' => ?_, fun q hql => ?_⟩
  · show va_up f.1 a (some e) q = _
    rw [va_up, if_neg (by omega)]
    exact h4 q hql
  · have he2 : va_up f.1 a (some e) q = some e' := he'
    rw [va_up] at he2
    by_cases hqa : q = a
    · subst hqa
      rw [if_pos rfl] at he2
      cases he2
      exact ⟨hdy, he⟩
    · rw [if_neg hqa] at he2
      exact ⟨(h5 q e' hql he2).1, (h5 q e' hql he2).2.kept (hq q hqa)⟩
  · rw [hq q (by omega)]
    exact h6 q hql
theorem pz_D.push {G : pz_G} {f : pz_H} {H H1 : Heap} {e : pz_E} (hD : pz_D G f H) (hdy : pz_dy e) (he : va_at G.1 vwCl (H.size, pz_e G e) H1) (hz : H1.size = H.size + 1) (hq : ∀ q, q < H.size → H1[q]? = H[q]?) : pz_D G (pz_nw f e) H1 := by
  obtain ⟨h1, h2, h3, h4, h5, h6⟩ := hD
  refine ⟨h1, by rw [hz, ← h2]; rfl, by omega, fun q hql => ?_, fun q e' hql he' => ?_, fun q hql => ?_⟩
  · show va_up f.1 f.2.2 (some e) q = _
    rw [va_up, if_neg (by omega)]
    exact h4 q hql
  · have he2 : va_up f.1 f.2.2 (some e) q = some e' := he'
    rw [va_up] at he2
    by_cases hqa : q = f.2.2
    · subst hqa
      rw [if_pos rfl] at he2
      cases he2
      rw [h2]
      exact ⟨hdy, he⟩
    · rw [if_neg hqa] at he2
      have h7 := h5 q e' hql he2
      exact ⟨h7.1, h7.2.kept (hq q h7.2.lt)⟩
  · rw [hq q (by omega)]
    exact h6 q hql
/-- a field's place: class ci, field j, as entry idx of own's pool says -/
def pz_fa (own : String) (idx ci j : Nat) : Prop := ∃ (C : String) (T : u_T) (N : Nat), vwCl[ci]? = some (C, T, N) ∧ j < N ∧ (∀ w ∈ u_ws C T N, w ∈ lw_tbl) ∧ (Cond.fieldLink own idx (T j).1 (T j).2.1 (T j).2.2.1 ∈ lw_tbl ∨ ∃ host, Cond.fieldLinkNest own idx (T j).1 (T j).2.1 (T j).2.2.1 host ∈ lw_tbl)
/-- likewise, to be written: its type -/
def pz_fp (own : String) (idx ci j : Nat) (ty : FieldType) (fin : Bool) : Prop := ∃ (C : String) (T : u_T) (N : Nat) (ty0 : Nat → FieldType), vwCl[ci]? = some (C, T, N) ∧ j < N ∧ (∀ w ∈ u_ws C T N, w ∈ lw_tbl) ∧ (Cond.fieldLink own idx (T j).1 (T j).2.1 (T j).2.2.1 ∈ lw_tbl ∨ ∃ host, Cond.fieldLinkNest own idx (T j).1 (T j).2.1 (T j).2.2.1 host ∈ lw_tbl) ∧
  (∀ k, k < N → parseFieldDescriptor (T k).2.2.1 = some (ty0 k)) ∧ (∀ a, a < N → ∀ b, b < N → a ≠ b → (T a).2.1 ≠ (T b).2.1) ∧ (T j).2.2.2 = fin ∧ parseFieldDescriptor (T j).2.2.1 = some ty ∧ (T j).1 = C
theorem pz_uws {G : pz_G} {U : State} (hT : pz_T G U) {C : String} {T : u_T} {N : Nat} (hin : ∀ w ∈ u_ws C T N, w ∈ lw_tbl) (A : Array Value) : ∀ w ∈ u_ws C T N, w.before A U = true := by
  intro w hw
  refine hT.wd (hin w hw) ?_ A
  obtain ⟨j, -, rfl⟩ := List.mem_map.mp hw
  unfold u_lay
  split <;> rfl
theorem pz_ci {ci : Nat} {q : vw_C} (h : vwCl[ci]? = some q) : ci < 100 := by
  have := (List.getElem?_eq_some_iff.mp h).1
  have h2 : vwCl.length = 10 := rfl
  omega
section PZH
variable {G : pz_G} {C : pz_C} {cc : ByteArray} {nL : Nat} {own : String} {pc pc' : Nat} {lv lv' : List (Nat × Value)} {st : List Value} {f : pz_H} {n k : Nat} {Q : State → Prop}
theorem pz_getV {a ci j idx : Nat} {v : Value} (hC : pz_OK G C cc nL own) (d : pz_d cc pc 3 pc' (.getfield idx)) (fa : pz_fa own idx ci j) (hv : pz_gV f a ci j = some v) (kk : pz_W G C nL pc' lv (v :: st) f n k Q) : pz_W G C nL pc lv (.ref a :: st) f n k Q := by
  intro H locs ls hD hF hl
  obtain ⟨d1, rfl⟩ := d
  obtain ⟨Cn, T, N, hc, hj, hin, hlk⟩ := fa
  obtain ⟨fs, h1, h2⟩ := pz_gV_of hv
  have hT := hC.2.2.2.2.2
  have hP := pz_D.one (hD.dyn hT h1 (pz_ci hc)).2
  rcases hlk with hlk | ⟨host, hlk⟩
  · exact va_get hC.1 hC.2.1 (pz_uws hT hin _) (fun w h => h) hC.2.2.2.1 hT.2.1 hP 0 rfl hc j hj (hT.wd hlk rfl _) (fun _ h => h) h2 d1 (kk H locs ls hD hF hl)
  · exact va_getN hC.1 hC.2.1 (pz_uws hT hin _) (fun w h => h) hC.2.2.2.1 hT.2.1 hP 0 rfl hc j hj (hT.wd hlk rfl _) (fun _ h => h) h2 d1 (kk H locs ls hD hF hl)
theorem pz_getI {α : Type} {a ci j idx : Nat} {g : Int32 → Option α} {r : α} (hC : pz_OK G C cc nL own) (d : pz_d cc pc 3 pc' (.getfield idx)) (fa : pz_fa own idx ci j) (hf : (pz_gI f a ci j).bind g = some r) (kk : ∀ v, g v = some r → pz_W G C nL pc' lv (.int v :: st) f n k Q) : pz_W G C nL pc lv (.ref a :: st) f n k Q := by
  obtain ⟨v, h1, h2⟩ := pz_bd hf
  exact pz_getV hC d fa (pz_gI_of h1) (kk v h2)
theorem pz_getR {α : Type} {a ci j idx : Nat} {g : Nat → Option α} {r : α} (hC : pz_OK G C cc nL own) (d : pz_d cc pc 3 pc' (.getfield idx)) (fa : pz_fa own idx ci j) (hf : (pz_gR f a ci j).bind g = some r) (kk : ∀ v, g v = some r → pz_W G C nL pc' lv (.ref v :: st) f n k Q) : pz_W G C nL pc lv (.ref a :: st) f n k Q := by
  obtain ⟨v, h1, h2⟩ := pz_bd hf
  exact pz_getV hC d fa (pz_gR_of h1) (kk v h2)
theorem pz_locs {locs : List Loc} {a : Nat} {i : Nat} (hF : ∀ q ∈ locs, pz_A G q.base) (ha : pz_z G ≤ a) : ∀ q ∈ locs ++ [⟨a, i⟩], pz_A G q.base := by
  intro q hq
  rcases List.mem_append.mp hq with h | h
  · exact hF q h
  · rw [List.mem_singleton.mp h]; exact ha
theorem pz_putV {α : Type} {a ci j idx : Nat} {v : Value} {ty : FieldType} {g : pz_H → Option α} {r : α} (hC : pz_OK G C cc nL own) (d : pz_d cc pc 3 pc' (.putfield idx)) (fp : pz_fp own idx ci j ty false) (hn : narrow ty v = v) (hfit : fits ty v = true) (hf : (pz_sV f a ci j v).bind g = some r) (kk : ∀ f', g f' = some r → pz_W G C nL pc' lv st f' n k Q) : pz_W G C nL pc lv (v :: .ref a :: st) f n k Q := by
  intro H locs ls hD hF hl
  obtain ⟨d1, rfl⟩ := d
  obtain ⟨Cn, T, N, ty0, hc, hj, hin, hlk, hty, hnm, hfin, hd, -⟩ := fp
  obtain ⟨f', hs, h0⟩ := pz_bd hf
  obtain ⟨fs, h1, h2, rfl⟩ := pz_sV_of hs
  have hT := hC.2.2.2.2.2
  obtain ⟨hza, hat⟩ := hD.dyn hT h1 (pz_ci hc)
  have hts := pz_uws hT hin (pz_as C)
  have hap := va_apart (own := own) hts (fun w h => h) ty0 hty hnm hT.2.1 hc
  obtain ⟨r', h1', cell, q1, q2, q3, q4⟩ := hat
  have hr : r' = (Cn, T, N) := Option.some.inj (h1'.symm.trans hc)
  subst hr
  obtain ⟨hS, hfc, kC, hkC, hkind⟩ := hT.2.1.1 ci _ hc
  obtain ⟨cf, kf, fi, fl, hi, hsl⟩ := hS j hj
  have hlay := hts _ (u_in_lay hj)
  unfold u_lay at hlay
  rw [if_neg (by rw [hfin]; decide)] at hlay
  have hst := (u_facts hfc hkC (u_lays hts (fun w h => h) hj) hi).1
  have h6 := u_store hfc hkC hkind hlay hi hd hn hfit
  have fin : ∀ H' : Heap, H'[a]? = some (cell.setSlot fl.slot v) → H'.size = H.size → (∀ q, q ≠ a → H'[q]? = H[q]?) → pz_D G (pz_up f a (.inl (ci, fs.set j v))) H' := by
    intro H' e1 e2 e3
    rw [hsl] at e1
    exact hD.set hza (pz_ci hc) ⟨_, hc, t_OB.to (V := updV (vp_V fs) j v) ⟨_, e1, q2, q3, t_set q4 hap hj v⟩ (fun i _ => vp_updV_set h2 v i)⟩ e2 e3
  rcases hlk with hlk | ⟨host, hlk⟩
  · exact W.putK hC.1 hC.2.1 (f := fl) ⟨hC.2.2.2.1, hT.wd hlk rfl _, ⟨_, _, _, hi⟩, hst⟩ (by rw [q2]; exact h6) q1 q3 (by rw [hsl]; exact k2_hasslot (q4 j hj)) rfl rfl d1 (fun H' e1 e2 e3 => kk _ h0 H' _ ls (fin H' e1 e2 e3) (pz_locs hF hza) hl)
  · exact va_WputK hC.1 hC.2.1 (f := fl) hC.2.2.2.1 (hT.wd hlk rfl _) hi hst (by rw [q2]; exact h6) q1 q3 (by rw [hsl]; exact k2_hasslot (q4 j hj)) rfl rfl d1 (fun H' e1 e2 e3 => kk _ h0 H' _ ls (fin H' e1 e2 e3) (pz_locs hF hza) hl)
theorem pz_putF {α : Type} {a ci j idx : Nat} {v : Value} {ty : FieldType} {g : pz_H → Option α} {r : α} (hC : pz_OK G C cc nL own) (hnm0 : (pz_me C).name = "<init>") (d : pz_d cc pc 3 pc' (.putfield idx)) (fp : pz_fp own idx ci j ty true) (hon : ∀ q, vwCl[ci]? = some q → q.1 = own) (hlk0 : Cond.fieldLink own idx = Cond.fieldLink own idx) (hn : narrow ty v = v) (hfit : fits ty v = true) (hf : (pz_sV f a ci j v).bind g = some r) (kk : ∀ f', g f' = some r → pz_W G C nL pc' lv st f' n k Q) : pz_W G C nL pc lv (v :: .ref a :: st) f n k Q := by
  intro H locs ls hD hF hl
  obtain ⟨d1, rfl⟩ := d
  obtain ⟨Cn, T, N, ty0, hc, hj, hin, hlk, hty, hnm, hfin, hd, hdecl⟩ := fp
  obtain ⟨f', hs, h0⟩ := pz_bd hf
  obtain ⟨fs, h1, h2, rfl⟩ := pz_sV_of hs
  have hT := hC.2.2.2.2.2
  obtain ⟨hza, hat⟩ := hD.dyn hT h1 (pz_ci hc)
  have hts := pz_uws hT hin (pz_as C)
  have hap := va_apart (own := own) hts (fun w h => h) ty0 hty hnm hT.2.1 hc
  obtain ⟨r', h1', cell, q1, q2, q3, q4⟩ := hat
  have hr : r' = (Cn, T, N) := Option.some.inj (h1'.symm.trans hc)
  subst hr
  obtain ⟨hS, hfc, kC, hkC, hkind⟩ := hT.2.1.1 ci _ hc
  obtain ⟨cf, kf, fi, fl, hi, hsl⟩ := hS j hj
  have hlay := hts _ (u_in_lay hj)
  unfold u_lay at hlay
  rw [if_pos hfin] at hlay
  have hst := (u_facts hfc hkC (u_lays hts (fun w h => h) hj) hi).1
  have hown := hC.2.2.2.1
  have hCo : Cn = own := hon _ hc
  have hcf : (pz_m C).cls = cf := by
    obtain ⟨_, _, c', _, _, _, -, -, hf', -, -, -, hown2, -⟩ := Cond.laysFinal_spec hlay
    have e1 : c' = cf := by have := hi.symm.trans hf'; simp at this; exact this.1.symm
    rw [hdecl, hCo] at hown2
    rw [← e1]; exact Option.some.inj (hown.symm.trans hown2)
  have h6 := u_fits hfc hkC hkind (Or.inr hlay) hi hd hn hfit
  have fin : ∀ H' : Heap, H'[a]? = some (cell.setSlot fl.slot v) → H'.size = H.size → (∀ q, q ≠ a → H'[q]? = H[q]?) → pz_D G (pz_up f a (.inl (ci, fs.set j v))) H' := by
    intro H' e1 e2 e3
    rw [hsl] at e1
    exact hD.set hza (pz_ci hc) ⟨_, hc, t_OB.to (V := updV (vp_V fs) j v) ⟨_, e1, q2, q3, t_set q4 hap hj v⟩ (fun i _ => vp_updV_set h2 v i)⟩ e2 e3
  rcases hlk with hlk | ⟨host, hlk⟩
  · exact W.putFinK hC.1 hC.2.1 hown (hT.wd hlk rfl _) hi hst hcf hnm0 (by rw [q2]; exact h6) q1 q3 (by rw [hsl]; exact k2_hasslot (q4 j hj)) rfl rfl d1 (fun H' e1 e2 e3 => kk _ h0 H' _ ls (fin H' e1 e2 e3) (pz_locs hF hza) hl)
  · exact va_Wputf hC.1 hC.2.1 hown (hT.wd hlk rfl _) hi hst (Or.inr ⟨hcf, hnm0⟩) q1 (by rw [q3]; exact fun h => by cases h) (by rw [hsl]; exact k2_hasslot (q4 j hj)) h6.1 (by rw [q3, q2]; exact h6.2) rfl rfl d1 (kk _ h0 _ _ ls (fin _ (by rw [Array.getElem?_setIfInBounds_self_of_lt ((Array.getElem?_eq_some_iff.mp q1).1)]) (Array.size_setIfInBounds) (fun q hq => Array.getElem?_setIfInBounds_ne (Ne.symm hq))) (pz_locs hF hza) hl)

theorem pz_iald {α : Type} {a : Nat} {i : Int32} {g : Int32 → Option α} {r : α} (hC : pz_OK G C cc nL own) (d : pz_d cc pc 1 pc' .iaload) (hf : (pz_aI f a 0 i).bind g = some r) (kk : ∀ v, g v = some r → pz_W G C nL pc' lv (.int v :: st) f n k Q) : pz_W G C nL pc lv (.int i :: .ref a :: st) f n k Q := by
  intro H locs ls hD hF hl
  obtain ⟨d1, rfl⟩ := d
  obtain ⟨v, h1, h2⟩ := pz_bd hf
  obtain ⟨N, gg, h3, h4, rfl⟩ := pz_aI_of h1
  have hT := hC.2.2.2.2.2
  have hP := pz_D.one (hD.dynA hT h3 (by decide)).2
  exact va_iald hC.1 hC.2.1 hT.2.1 hP 0 0 rfl rfl h4 d1 (kk _ h2 H locs ls hD hF hl)
theorem pz_lald {α : Type} {a : Nat} {i : Int32} {g : Int64 → Option α} {r : α} (hC : pz_OK G C cc nL own) (d : pz_d cc pc 1 pc' .laload) (hf : (pz_aL f a 1 i).bind g = some r) (kk : ∀ v, g v = some r → pz_W G C nL pc' lv (.long v :: st) f n k Q) : pz_W G C nL pc lv (.int i :: .ref a :: st) f n k Q := by
  intro H locs ls hD hF hl
  obtain ⟨d1, rfl⟩ := d
  obtain ⟨v, h1, h2⟩ := pz_bd hf
  obtain ⟨N, gg, h3, h4, rfl⟩ := pz_aL_of h1
  have hT := hC.2.2.2.2.2
  have hP := pz_D.one (hD.dynA hT h3 (by decide)).2
  exact va_lald hC.1 hC.2.1 hT.2.1 hP 0 1 rfl rfl h4 d1 (kk _ h2 H locs ls hD hF hl)
theorem pz_bald {α : Type} {a : Nat} {i : Int32} {g : Int32 → Option α} {r : α} (hC : pz_OK G C cc nL own) (d : pz_d cc pc 1 pc' .baload) (hf : (pz_aI f a 2 i).bind g = some r) (kk : ∀ v, g v = some r → pz_W G C nL pc' lv (.int v :: st) f n k Q) : pz_W G C nL pc lv (.int i :: .ref a :: st) f n k Q := by
  intro H locs ls hD hF hl
  obtain ⟨d1, rfl⟩ := d
  obtain ⟨v, h1, h2⟩ := pz_bd hf
  obtain ⟨N, gg, h3, h4, rfl⟩ := pz_aI_of h1
  have hT := hC.2.2.2.2.2
  have hP := pz_D.one (hD.dynA hT h3 (by decide)).2
  exact va_bald hC.1 hC.2.1 hT.2.1 hP 0 2 rfl rfl h4 d1 (kk _ h2 H locs ls hD hF hl)
theorem pz_aald {α : Type} {a t : Nat} {Cn : String} {i : Int32} {g : Nat → Option α} {r : α} (hC : pz_OK G C cc nL own) (d : pz_d cc pc 1 pc' .aaload) (ht : ∀ G : pz_G, (pz_tys G)[t]? = some (G.2.1 t, .object Cn)) (ht2 : t < 10) (hf : (pz_aR f a t i).bind g = some r) (kk : ∀ v, g v = some r → pz_W G C nL pc' lv (.ref v :: st) f n k Q) : pz_W G C nL pc lv (.int i :: .ref a :: st) f n k Q := by
  intro H locs ls hD hF hl
  obtain ⟨d1, rfl⟩ := d
  obtain ⟨v, h1, h2⟩ := pz_bd hf
  obtain ⟨N, gg, h3, h4, h5⟩ := pz_aR_of h1
  have hT := hC.2.2.2.2.2
  have hP := pz_D.one (hD.dynA hT h3 ht2).2
  refine va_aldq hC.1 hC.2.1 hT.2.1 hP 0 t rfl (ht G) h4 d1 ?_
  rw [h5]
  exact kk _ h2 H locs ls hD hF hl
theorem pz_alen {α : Type} {a t : Nat} {ty : FieldType} {g : Int32 → Option α} {r : α} (hC : pz_OK G C cc nL own) (d : pz_d cc pc 1 pc' .arraylength) (ht : ∀ G : pz_G, (pz_tys G)[t]? = some (G.2.1 t, ty)) (ht2 : t < 10) (hf : (pz_ln f a t).bind g = some r) (kk : ∀ v, g v = some r → pz_W G C nL pc' lv (.int v :: st) f n k Q) : pz_W G C nL pc lv (.ref a :: st) f n k Q := by
  intro H locs ls hD hF hl
  obtain ⟨d1, rfl⟩ := d
  obtain ⟨v, h1, h2⟩ := pz_bd hf
  obtain ⟨N, gg, h3, rfl⟩ := pz_ln_of h1
  have hT := hC.2.2.2.2.2
  have hP := pz_D.one (hD.dynA hT h3 ht2).2
  rcases gg with gg | gg | gg
  · exact va_alen hC.1 hC.2.1 hT.2.1 hP 0 t rfl (ht G) rfl d1 (kk _ h2 H locs ls hD hF hl)
  · exact va_alen hC.1 hC.2.1 hT.2.1 hP 0 t rfl (ht G) rfl d1 (kk _ h2 H locs ls hD hF hl)
  · exact va_alen hC.1 hC.2.1 hT.2.1 hP 0 t rfl (ht G) rfl d1 (kk _ h2 H locs ls hD hF hl)
theorem pz_iast {α : Type} {a : Nat} {i : Int32} {x : Int32} {g : pz_H → Option α} {r : α} (hC : pz_OK G C cc nL own) (d : pz_d cc pc 1 pc' .iastore) (hf : (pz_tI f a 0 i x).bind g = some r) (kk : ∀ f', g f' = some r → pz_W G C nL pc' lv st f' n k Q) : pz_W G C nL pc lv (.int x :: .int i :: .ref a :: st) f n k Q := by
  intro H locs ls hD hF hl
  obtain ⟨d1, rfl⟩ := d
  obtain ⟨f', h1, h2⟩ := pz_bd hf
  obtain ⟨N, gg, h3, h4, rfl⟩ := pz_tI_of h1
  have hT := hC.2.2.2.2.2
  obtain ⟨hza, hat⟩ := hD.dynA hT h3 (by decide)
  refine W.iast hC.1 hC.2.1 hat ((hT.2.1.2 0 _ rfl).1 N (fun j => .int (gg j))) (fun q => by cases q) (by show ¬ (i < 0 ∨ (arrV _ _ _).slots.size ≤ _); rw [arrV_size]; exact h4) rfl rfl d1 (fun H1 e z oq => kk _ h2 H1 _ ls (hD.set hza (show (_ : Nat) < 10 by decide) ?_ z oq) (pz_locs hF hza) hl)
  show H1[a]? = some (vp_cell _ _)
  rw [e, vp_cell_i, vp_cell_i, arrV_store]
  congr 2
  funext q
  by_cases hq : q = i.toNatClampNeg
  · subst hq
    simp [updV, upd]
  · simp [updV, upd, hq]
theorem pz_last {α : Type} {a : Nat} {i : Int32} {x : Int64} {g : pz_H → Option α} {r : α} (hC : pz_OK G C cc nL own) (d : pz_d cc pc 1 pc' .lastore) (hf : (pz_tL f a 1 i x).bind g = some r) (kk : ∀ f', g f' = some r → pz_W G C nL pc' lv st f' n k Q) : pz_W G C nL pc lv (.long x :: .int i :: .ref a :: st) f n k Q := by
  intro H locs ls hD hF hl
  obtain ⟨d1, rfl⟩ := d
  obtain ⟨f', h1, h2⟩ := pz_bd hf
  obtain ⟨N, gg, h3, h4, rfl⟩ := pz_tL_of h1
  have hT := hC.2.2.2.2.2
  obtain ⟨hza, hat⟩ := hD.dynA hT h3 (by decide)
  refine W.last hC.1 hC.2.1 hat ((hT.2.1.2 1 _ rfl).1 N (fun j => .long (gg j))) (fun q => by cases q) (by show ¬ (i < 0 ∨ (arrV _ _ _).slots.size ≤ _); rw [arrV_size]; exact h4) rfl rfl d1 (fun H1 e z oq => kk _ h2 H1 _ ls (hD.set hza (show (_ : Nat) < 10 by decide) ?_ z oq) (pz_locs hF hza) hl)
  show H1[a]? = some (vp_cell _ _)
  rw [e, vp_cell_l, vp_cell_l, arrV_store]
  congr 2
  funext q
  by_cases hq : q = i.toNatClampNeg
  · subst hq
    simp [updV, vp_updL]
  · simp [updV, vp_updL, hq]
theorem pz_bast {α : Type} {a : Nat} {i x : Int32} {g : pz_H → Option α} {r : α} (hC : pz_OK G C cc nL own) (d : pz_d cc pc 1 pc' .bastore) (hx : narrow .byte (.int x) = .int x) (hf : (pz_tI f a 2 i x).bind g = some r) (kk : ∀ f', g f' = some r → pz_W G C nL pc' lv st f' n k Q) : pz_W G C nL pc lv (.int x :: .int i :: .ref a :: st) f n k Q := by
  intro H locs ls hD hF hl
  obtain ⟨d1, rfl⟩ := d
  obtain ⟨f', h1, h2⟩ := pz_bd hf
  obtain ⟨N, gg, h3, h4, rfl⟩ := pz_tI_of h1
  have hT := hC.2.2.2.2.2
  obtain ⟨hza, hat⟩ := hD.dynA hT h3 (by decide)
  refine W.bast hC.1 hC.2.1 hat ((hT.2.1.2 2 _ rfl).1 N (fun j => .int (gg j))) (fun q => by cases q) (by show ¬ (i < 0 ∨ (arrV _ _ _).slots.size ≤ _); rw [arrV_size]; exact h4) rfl rfl d1 (fun H1 e z oq => kk _ h2 H1 _ ls (hD.set hza (show (_ : Nat) < 10 by decide) ?_ z oq) (pz_locs hF hza) hl)
  show H1[a]? = some (vp_cell _ _)
  rw [e, hx, vp_cell_i, vp_cell_i, arrV_store]
  congr 2
  funext q
  by_cases hq : q = i.toNatClampNeg
  · subst hq
    simp [updV, upd]
  · simp [updV, upd, hq]
theorem pz_aast {α : Type} {a t ci : Nat} {Cn : String} {T : u_T} {N : Nat} {i : Int32} {x : Nat} {g : pz_H → Option α} {r : α} (hC : pz_OK G C cc nL own) (d : pz_d cc pc 1 pc' .aastore) (ht : ∀ G : pz_G, (pz_tys G)[t]? = some (G.2.1 t, .object Cn)) (ht2 : t < 10) (hc : vwCl[ci]? = some (Cn, T, N)) (hf : (pz_tR f a t ci i x).bind g = some r) (kk : ∀ f', g f' = some r → pz_W G C nL pc' lv st f' n k Q) : pz_W G C nL pc lv (.ref x :: .int i :: .ref a :: st) f n k Q := by
  intro H locs ls hD hF hl
  obtain ⟨d1, rfl⟩ := d
  obtain ⟨f', h1, h2⟩ := pz_bd hf
  obtain ⟨N', gg, h3, h4, h5, rfl⟩ := pz_tR_of h1
  have hT := hC.2.2.2.2.2
  obtain ⟨hza, hat⟩ := hD.dynA hT h3 ht2
  obtain ⟨vs, h6⟩ := pz_is_of h5
  obtain ⟨r', hr', cellV, g1, g2, g3, -⟩ := (hD.dyn hT h6 (pz_ci hc)).2
  have hcls := (hT.2.1.1 ci _ hc).2
  obtain ⟨kA, comp, k1, k2, k3, -⟩ := (hT.2.1.2 t _ (ht G)).2
  have hcomp : comp = G.1.1 ci := Option.some.inj (k3.symm.trans hcls.1)
  subst hcomp
  obtain ⟨kC, hkC, -⟩ := id hcls.2
  have hlt : i.toNatClampNeg < N' := Nat.not_le.mp fun q => h4 (Or.inr q)
  have h0 : ¬ i < 0 := fun q => h4 (Or.inl q)
  refine W.aast hC.1 hC.2.1 hat (fun q h => by cases h) (fun h => by cases h) k1 k2 rfl hkC ⟨h0, by show _ < (arrV _ _ _).slots.size; rw [arrV_size]; exact hlt⟩ g1 (fun q h => by rw [g3] at h; cases h) (by rw [g2]; exact hkC) (by rw [g2]; exact va_assign hcls) rfl rfl d1 (fun H1 e z oq => kk _ h2 H1 _ ls (hD.set hza ht2 ?_ z oq) (pz_locs hF hza) hl)
  show H1[a]? = some (vp_cell _ _)
  rw [e, vp_cell_q, vp_cell_q, arrV_store]
  congr 2
  funext q
  by_cases hq : q = i.toNatClampNeg
  · subst hq
    simp [updV, va_up, va_rf]
  · simp [updV, va_up, hq]
end PZH
