/-- loops' fuel: more than any loop goes round -/
def pz_F : Nat := 4000
theorem pz_case {α : Type} {x v : Int32} {A B : Option α} {r : α} {P : Prop} (hf : (if x = v then A else B) = some r) (kt : x = v → A = some r → P) (kf : ¬ x = v → B = some r → P) : P := by
  by_cases h : x = v
  · rw [if_pos h] at hf; exact kt h hf
  · rw [if_neg h] at hf; exact kf h hf
section PZX
variable {G : pz_G} {C : pz_C} {cc : ByteArray} {nL : Nat} {own : String} {pc pc' : Nat} {lv lv' : List (Nat × Value)} {st : List Value} {f : pz_H} {n k : Nat} {Q : State → Prop}
theorem pz_tabI {dflt lo hi : Int} {offs : Array Int} {len : Nat} {x v : Int32} {off : Int} {tgt : Nat} (hC : pz_OK G C cc nL own) (d : pz_d cc pc len pc' (.tableswitch dflt lo hi offs)) (c : x = v) (h1 : ¬ v.toInt < lo) (h2 : ¬ hi < v.toInt) (ho : offs[(v.toInt - lo).toNat]? = some off) (ht : (pc : Int) + off = (tgt : Int)) (kk : pz_W G C nL tgt lv st f n k Q) : pz_W G C nL pc lv (.int x :: st) f n k Q := by
  intro H locs ls hD hF hl
  subst c
  exact lv_tableIn hC.1 hC.2.1 d.1 h1 h2 ho ht (kk H locs ls hD hF hl)
theorem pz_tabO {dflt lo hi : Int} {offs : Array Int} {len : Nat} {x : Int32} {tgt : Nat} (hC : pz_OK G C cc nL own) (d : pz_d cc pc len pc' (.tableswitch dflt lo hi offs)) (h : x.toInt < lo ∨ hi < x.toInt) (ht : (pc : Int) + dflt = (tgt : Int)) (kk : pz_W G C nL tgt lv st f n k Q) : pz_W G C nL pc lv (.int x :: st) f n k Q := by
  intro H locs ls hD hF hl
  exact lv_tableOut hC.1 hC.2.1 d.1 h ht (kk H locs ls hD hF hl)
theorem pz_icmp_geT {x y : Int32} {tgt : Nat} {off : Int} (hC : pz_OK G C cc nL own) (d : pz_j cc pc pc' tgt (.if_icmp .ge off) off) (h : y ≤ x) (kk : pz_W G C nL tgt lv st f n k Q) : pz_W G C nL pc lv (.int y :: .int x :: st) f n k Q := by
  intro H locs ls hD hF hl
  exact lv_icmp_ge hC.1 hC.2.1 d.1 d.2.2 (fun _ => kk H locs ls hD hF hl) (fun c => absurd h c)
theorem pz_icmp_geF {x y : Int32} {tgt : Nat} {off : Int} (hC : pz_OK G C cc nL own) (d : pz_j cc pc pc' tgt (.if_icmp .ge off) off) (h : ¬ y ≤ x) (kk : pz_W G C nL pc' lv st f n k Q) : pz_W G C nL pc lv (.int y :: .int x :: st) f n k Q := by
  intro H locs ls hD hF hl
  obtain ⟨d1, rfl, d3⟩ := d
  exact lv_icmp_ge hC.1 hC.2.1 d1 d3 (fun c => absurd c h) (fun _ => kk H locs ls hD hF hl)
variable {y : MethodName} {cy : ByteArray} {mL idx np fr lo mc ms ci b fr0 lo0 mc0 ms0 : Nat} {rt rt0 : Option FieldType} {As stk : List Value} {v : Option Value} {f' : pz_H} {Cn : String}

theorem pz_callU {x : MethodName} {owner : String} (hC : pz_OK G C cc nL own) (hK : pz_K C rt0 fr0 lo0 mc0 ms0) (d : pz_d cc pc 3 pc' (.invokevirtual idx)) (hy : pz_y y cy mL rt np) (hyx : y = ⟨owner, x.name, x.desc⟩) (hin : Cond.instanceMethod y ∈ lw_tbl) (hse : Cond.selects Cn x y ∈ lw_tbl) (hsm : Cond.sameMethod x.cls owner x.name x.desc ∈ lw_tbl) (hrc : pz_rc ci Cn) (hlk : Cond.methodLink own idx x ∈ lw_tbl) (hM : pz_Met C.2.1 G y cy mL rt fr lo mc ms (.ref b :: As) f v f') (hb : pz_is f b ci = some ()) (hn : As.length = np) (hst : stk = As.reverse ++ .ref b :: st) (hW : (st.map fun v => v.category).sum ≤ 8) (hR : fr + 1 ≤ fr0 ∧ 8 + (mL + 11) + lo ≤ lo0) (hr : n + mc ≤ mc0 ∧ k + ms ≤ ms0) (kk : pz_W G C nL pc' lv (v.toList ++ st) f' (n + mc) (k + ms) Q) : pz_W G C nL pc lv stk f n k Q := by
  intro H locs ls hD hF hl
  obtain ⟨d1, rfl⟩ := d
  have hT := hC.2.2.2.2.2
  have hp : PreV (pz_s C) H Cn b (pz_Pc G (.ref b :: As) f) As := ⟨pz_blind, pz_recv hD hT hb hrc, fun U hU hW => ⟨rfl, hT.warm hW, by rw [hU]; exact hD⟩⟩
  have hroom : n + mc ≤ (pz_R C).cells ∧ k + ms ≤ (pz_R C).slots := by rw [hK.2]; exact hr
  refine pz_behind (va_runU (owner := owner) (x := x) (nL := nL) (Ts := []) (bytes := cy) (maxL := mL) (ret := rt) ⟨hC.1, hC.2.1, hC.2.2.1, hC.2.2.2.1, fun _ h => by cases h⟩ hM ⟨⟨rfl, rfl, by rw [hK.2]; exact hR.1, by rw [hK.2]; exact hR.2, fun w hw a' U hW => ?_, List.mem_singleton.mpr rfl⟩, hT.wd hy.1 rfl _, hT.wd hy.2.1 rfl _, ?_, fun sig h => ?_, hT.wd hlk rfl _, hT.wd hsm rfl _, ?_, hT.wd hse rfl _, hT.wd hin rfl _⟩ hp rfl hn hl.1 hst (lv_room hW) d1 hroom) hF hl kk
  · rw [List.mem_singleton.mp hw]; exact hT.ww hW hy.1 rfl _
  · have h1 := hy.2.2.1; rw [hyx] at h1; exact h1
  · have h2 := hy.2.2.2
    rw [hyx] at h2
    rw [h] at h2
    exact (Option.some.inj h2).symm
  · rw [← hyx]; exact va_Decl.of (hT.wd hin rfl #[]) (hT.wd hy.1 rfl #[])
theorem pz_gets {i : Nat} {q : String × String × String} (hC : pz_OK G C cc nL own) (d : pz_d cc pc 3 pc' (.getstatic idx)) (hq : pz_sF[i]? = some q) (hlk : Cond.fieldLink own idx q.1 q.2.1 q.2.2 ∈ lw_tbl ∨ ∃ host, Cond.fieldLinkNest own idx q.1 q.2.1 q.2.2 host ∈ lw_tbl) (kk : pz_W G C nL pc' lv (.ref (f.2.1 i) :: st) f n k Q) : pz_W G C nL pc lv st f n k Q := by
  intro H locs ls hD hF hl
  obtain ⟨d1, rfl⟩ := d
  have hT := hC.2.2.2.2.2
  obtain ⟨cf, kf, fi, fl, a, cell, h1, h2, h3, h4, h5, h6, h7, h8⟩ := hT.2.2.1.2.1 i q hq
  have ha : a < pz_z G := Nat.not_le.mp h8
  rw [hD.1] at kk
  rcases hlk with hlk | ⟨host, hlk⟩
  · exact W.gets hC.1 hC.2.1 hC.2.2.2.1 (hT.wd hlk rfl _) h1 h2 h3 h4 (by rw [hD.2.2.2.2.2 a ha]; exact h5) (fun e => by rw [e] at h6; cases h6) h7 rfl d1 (kk H locs ls hD hF hl)
  · exact va_WgetsN hC.1 hC.2.1 hC.2.2.2.1 (hT.wd hlk rfl _) h1 h2 h3 h4 (by rw [hD.2.2.2.2.2 a ha]; exact h5) (fun e => by rw [e] at h6; cases h6) h7 rfl d1 (kk H locs ls hD hF hl)
theorem pz_getsJ {i : Nat} {q : String × String × String × Int32} (hC : pz_OK G C cc nL own) (d : pz_d cc pc 3 pc' (.getstatic idx)) (hq : pz_sJ[i]? = some q) (hlk : Cond.fieldLink own idx q.1 q.2.1 q.2.2.1 ∈ lw_tbl) (kk : pz_W G C nL pc' lv (.int q.2.2.2 :: st) f n k Q) : pz_W G C nL pc lv st f n k Q := by
  intro H locs ls hD hF hl
  obtain ⟨d1, rfl⟩ := d
  have hT := hC.2.2.2.2.2
  obtain ⟨cf, kf, fi, fl, a, cell, h1, h2, h3, h4, h5, h6, h7, h8⟩ := hT.2.2.1.2.2.2.1 i q hq
  have ha : a < pz_z G := Nat.not_le.mp h8
  exact W.gets hC.1 hC.2.1 hC.2.2.2.1 (hT.wd hlk rfl _) h1 h2 h3 h4 (by rw [hD.2.2.2.2.2 a ha]; exact h5) (fun e => by rw [e] at h6; cases h6) h7 rfl d1 (kk H locs ls hD hF hl)
theorem pz_ldcS {i : Nat} {tx : String} (hC : pz_OK G C cc nL own) (d : pz_d cc pc 2 pc' (.ldc idx)) (hq : pz_sK[i]? = some (own, idx, tx)) (kk : pz_W G C nL pc' lv (.ref (f.2.1 (5 + i)) :: st) f n k Q) : pz_W G C nL pc lv st f n k Q := by
  intro H locs ls hD hF hl
  obtain ⟨d1, rfl⟩ := d
  have hT := hC.2.2.2.2.2
  rw [hD.1] at kk
  exact va_ldcS hC.1 hC.2.1 hC.2.2.2.1 (hT.2.2.1.2.2.1 i _ hq) d1 (kk H locs ls hD hF hl)
theorem pz_D.sta {G : pz_G} {f : pz_H} {H : Heap} {U : State} {a : Nat} {e : pz_E} (hD : pz_D G f H) (hT : pz_T G U) (h : f.1 a = some e) (hs : ¬ pz_dy e) : a < pz_z G ∧ pz_sat G U a e := by
  by_cases ha : a < pz_z G
  · exact ⟨ha, hT.2.2.1.1 a _ ha (by rw [← hD.2.2.2.1 a ha]; exact h)⟩
  · exact absurd (hD.2.2.2.2.1 a _ (by omega) h).1 hs
theorem pz_getS {a j : Nat} {v : Value} (hC : pz_OK G C cc nL own) (d : pz_d cc pc 3 pc' (.getfield idx)) (hci : 100 ≤ ci) (hlk : Cond.fieldLink own idx (pz_sT ci j).1 (pz_sT ci j).2.1 (pz_sT ci j).2.2 ∈ lw_tbl ∨ ∃ host, Cond.fieldLinkNest own idx (pz_sT ci j).1 (pz_sT ci j).2.1 (pz_sT ci j).2.2 host ∈ lw_tbl) (hv : pz_gV f a ci j = some v) (kk : pz_W G C nL pc' lv (v :: st) f n k Q) : pz_W G C nL pc lv (.ref a :: st) f n k Q := by
  intro H locs ls hD hF hl
  obtain ⟨d1, rfl⟩ := d
  have hT := hC.2.2.2.2.2
  obtain ⟨fs, h1, h2⟩ := pz_gV_of hv
  obtain ⟨ha, -, -, h3⟩ := hD.sta hT h1 (by show ¬ (ci < 100); omega)
  obtain ⟨cf, k0, i, fl, cell, g1, g2, g3, g4, g5, g6⟩ := h3 j v h2
  rcases hlk with hlk | ⟨host, hlk⟩
  · exact W.getf hC.1 hC.2.1 hC.2.2.2.1 (hT.wd hlk rfl _) g1 g2 (by rw [hD.2.2.2.2.2 a ha]; exact g3) g4 g5 rfl rfl d1 (kk H locs ls hD hF hl)
  · exact va_Wgetf hC.1 hC.2.1 hC.2.2.2.1 (hT.wd hlk rfl _) g1 g2 (by rw [hD.2.2.2.2.2 a ha]; exact g3) g4 g5 rfl rfl d1 (kk H locs ls hD hF hl)
theorem pz_getSI {α : Type} {a j : Nat} {g : Int32 → Option α} {r : α} (hC : pz_OK G C cc nL own) (d : pz_d cc pc 3 pc' (.getfield idx)) (hci : 100 ≤ ci) (hlk : Cond.fieldLink own idx (pz_sT ci j).1 (pz_sT ci j).2.1 (pz_sT ci j).2.2 ∈ lw_tbl ∨ ∃ host, Cond.fieldLinkNest own idx (pz_sT ci j).1 (pz_sT ci j).2.1 (pz_sT ci j).2.2 host ∈ lw_tbl) (hf : (pz_gI f a ci j).bind g = some r) (kk : ∀ v, g v = some r → pz_W G C nL pc' lv (.int v :: st) f n k Q) : pz_W G C nL pc lv (.ref a :: st) f n k Q := by
  obtain ⟨v, h1, h2⟩ := pz_bd hf
  exact pz_getS hC d hci hlk (pz_gI_of h1) (kk v h2)
theorem pz_getSR {α : Type} {a j : Nat} {g : Nat → Option α} {r : α} (hC : pz_OK G C cc nL own) (d : pz_d cc pc 3 pc' (.getfield idx)) (hci : 100 ≤ ci) (hlk : Cond.fieldLink own idx (pz_sT ci j).1 (pz_sT ci j).2.1 (pz_sT ci j).2.2 ∈ lw_tbl ∨ ∃ host, Cond.fieldLinkNest own idx (pz_sT ci j).1 (pz_sT ci j).2.1 (pz_sT ci j).2.2 host ∈ lw_tbl) (hf : (pz_gR f a ci j).bind g = some r) (kk : ∀ v, g v = some r → pz_W G C nL pc' lv (.ref v :: st) f n k Q) : pz_W G C nL pc lv (.ref a :: st) f n k Q := by
  obtain ⟨v, h1, h2⟩ := pz_bd hf
  exact pz_getS hC d hci hlk (pz_gR_of h1) (kk v h2)
theorem pz_stA {a t N : Nat} {H : Heap} {U : State} {gg : Nat → Int32} (hD : pz_D G f H) (hT : pz_T G U) (h : f.1 a = some (.inr (t, N, .inl gg))) (ht : 10 ≤ t) : ∃ cell : Cell, H[a]? = some cell ∧ U.isArrayOf cell (pz_sty t) ∧ cell.vm ≠ .unknown ∧ N ≤ cell.slots.size ∧ cell.slots.size.toInt32 = Int32.ofNat N ∧ ∀ j : Nat, j < N → cell.slots[j]? = some (.int (gg j)) := by
  obtain ⟨ha, -, cell, h1, h2, h3, h4, h5, h6, -⟩ := hD.sta hT h (by show ¬ (t < 10); omega)
  exact ⟨cell, by rw [hD.2.2.2.2.2 a ha]; exact h1, h2, h3, h4, h5, h6⟩
theorem pz_stR {a t N : Nat} {H : Heap} {U : State} {gg : Nat → Option Nat} (hD : pz_D G f H) (hT : pz_T G U) (h : f.1 a = some (.inr (t, N, .inr (.inr gg)))) (ht : 10 ≤ t) : ∃ cell : Cell, H[a]? = some cell ∧ U.isArrayOf cell (pz_sty t) ∧ cell.vm ≠ .unknown ∧ N ≤ cell.slots.size ∧ cell.slots.size.toInt32 = Int32.ofNat N ∧ ∀ j : Nat, j < N → cell.slots[j]? = some (va_rf (gg j)) := by
  obtain ⟨ha, -, cell, h1, h2, h3, h4, h5, h6, -⟩ := hD.sta hT h (by show ¬ (t < 10); omega)
  exact ⟨cell, by rw [hD.2.2.2.2.2 a ha]; exact h1, h2, h3, h4, h5, h6⟩
theorem pz_inS {i : Int32} {N : Nat} {cell : Cell} (h : vp_in i N) (h4 : N ≤ cell.slots.size) : ¬ (i < 0 ∨ cell.slots.size ≤ i.toNatClampNeg) := by
  intro q
  rcases q with q | q
  · exact h (Or.inl q)
  · exact h (Or.inr (by omega))
theorem pz_ialdS {α : Type} {a : Nat} {i : Int32} {g : Int32 → Option α} {r : α} (hC : pz_OK G C cc nL own) (d : pz_d cc pc 1 pc' .iaload) (hf : (pz_aI f a 10 i).bind g = some r) (kk : ∀ v, g v = some r → pz_W G C nL pc' lv (.int v :: st) f n k Q) : pz_W G C nL pc lv (.int i :: .ref a :: st) f n k Q := by
  intro H locs ls hD hF hl
  obtain ⟨d1, rfl⟩ := d
  obtain ⟨v, h1, h2⟩ := pz_bd hf
  obtain ⟨N, gg, h3, h4, rfl⟩ := pz_aI_of h1
  have hT := hC.2.2.2.2.2
  obtain ⟨cell, c1, c2, c3, c4, c5, c6⟩ := pz_stA hD hT h3 (by decide)
  exact W.iald hC.1 hC.2.1 c1 c2 c3 (pz_inS h4 c4) (c6 _ (Nat.not_le.mp fun q => h4 (Or.inr q))) rfl rfl d1 (kk _ h2 H locs ls hD hF hl)
theorem pz_baldS {α : Type} {a : Nat} {i : Int32} {g : Int32 → Option α} {r : α} (hC : pz_OK G C cc nL own) (d : pz_d cc pc 1 pc' .baload) (hf : (pz_aI f a 12 i).bind g = some r) (kk : ∀ v, g v = some r → pz_W G C nL pc' lv (.int v :: st) f n k Q) : pz_W G C nL pc lv (.int i :: .ref a :: st) f n k Q := by
  intro H locs ls hD hF hl
  obtain ⟨d1, rfl⟩ := d
  obtain ⟨v, h1, h2⟩ := pz_bd hf
  obtain ⟨N, gg, h3, h4, rfl⟩ := pz_aI_of h1
  have hT := hC.2.2.2.2.2
  obtain ⟨cell, c1, c2, c3, c4, c5, c6⟩ := pz_stA hD hT h3 (by decide)
  exact W.bald hC.1 hC.2.1 c1 c2 c3 (pz_inS h4 c4) (c6 _ (Nat.not_le.mp fun q => h4 (Or.inr q))) rfl rfl d1 (kk _ h2 H locs ls hD hF hl)
theorem pz_aaldS {α : Type} {a : Nat} {i : Int32} {g : Nat → Option α} {r : α} (hC : pz_OK G C cc nL own) (d : pz_d cc pc 1 pc' .aaload) (hf : (pz_aR f a 11 i).bind g = some r) (kk : ∀ v, g v = some r → pz_W G C nL pc' lv (.ref v :: st) f n k Q) : pz_W G C nL pc lv (.int i :: .ref a :: st) f n k Q := by
  intro H locs ls hD hF hl
  obtain ⟨d1, rfl⟩ := d
  obtain ⟨v, h1, h2⟩ := pz_bd hf
  obtain ⟨N, gg, h3, h4, h5⟩ := pz_aR_of h1
  have hT := hC.2.2.2.2.2
  obtain ⟨cell, c1, c2, c3, c4, c5, c6⟩ := pz_stR hD hT h3 (by decide)
  have c7 := c6 _ (Nat.not_le.mp fun q => h4 (Or.inr q))
  rw [h5] at c7
  exact W.aald (ty := .object "PartedPension$Verb") hC.1 hC.2.1 c1 c2 rfl c3 (pz_inS h4 c4) c7 rfl rfl d1 (kk _ h2 H locs ls hD hF hl)
theorem pz_alenS {α : Type} {a t : Nat} {g : Int32 → Option α} {r : α} (hC : pz_OK G C cc nL own) (d : pz_d cc pc 1 pc' .arraylength) (ht : 10 ≤ t) (hf : (pz_ln f a t).bind g = some r) (kk : ∀ v, g v = some r → pz_W G C nL pc' lv (.int v :: st) f n k Q) : pz_W G C nL pc lv (.ref a :: st) f n k Q := by
  intro H locs ls hD hF hl
  obtain ⟨d1, rfl⟩ := d
  obtain ⟨v, h1, h2⟩ := pz_bd hf
  obtain ⟨N, gg, h3, rfl⟩ := pz_ln_of h1
  have hT := hC.2.2.2.2.2
  rcases gg with gg | gg | gg
  · obtain ⟨cell, c1, c2, c3, c4, c5, c6⟩ := pz_stA hD hT h3 ht
    exact W.alen hC.1 hC.2.1 c1 c2 c5 rfl rfl d1 (kk _ h2 H locs ls hD hF hl)
  · exact absurd (hD.sta hT h3 (by show ¬ (t < 10); omega)).2 id
  · obtain ⟨cell, c1, c2, c3, c4, c5, c6⟩ := pz_stR hD hT h3 ht
    exact W.alen hC.1 hC.2.1 c1 c2 c5 rfl rfl d1 (kk _ h2 H locs ls hD hF hl)
theorem pz_aretO {x : Option Nat} {r : Option Nat} {Cn : String} (hC : pz_OK G C cc nL own) (hK : pz_K C (some (.object Cn)) fr0 lo0 mc0 ms0) (d : pz_d cc pc 1 pc' .areturn) (hf : some x = some r) : pz_W G C nL pc lv [va_rf x] f n k (pz_Q G C (some (va_rf r)) f n k) := by
  intro H locs ls hD hF hl
  obtain ⟨d1, rfl⟩ := d
  cases hf
  exact W.aret hC.1 hC.2.1 hK.1 (Or.inl ⟨_, rfl⟩) (va_rf_or x) (fun t ht hW => ⟨rfl, by rw [ht]; exact hD⟩) hF d1 (hlocks := hC.2.2.2.2.1)
theorem pz_VO {α : Type} {F : Option (Option Nat)} {g : Option Nat → Option α} {r : α} (hC : pz_OK G C cc nL own) (hK : pz_K C rt0 fr0 lo0 mc0 ms0) (d : pz_d cc pc 3 pc' (.invokevirtual idx)) (hy : pz_y y cy mL rt np) (hyv : pz_yv y ci) (hlk : pz_lk own idx y) (hf : F.bind g = some r) (hM : ∀ x, F = some x → pz_Met C.2.1 G y cy mL rt fr lo 0 0 (.ref b :: As) f (some (va_rf x)) f ∧ pz_is f b ci = some ()) (hn : As.length = np) (hst : stk = As.reverse ++ .ref b :: st) (hW : (st.map fun v => v.category).sum ≤ 8) (hR : fr + 1 ≤ fr0 ∧ 8 + (mL + 11) + lo ≤ lo0) (hr : n ≤ mc0 ∧ k ≤ ms0) (kk : ∀ x, g x = some r → pz_W G C nL pc' lv (va_rf x :: st) f n k Q) : pz_W G C nL pc lv stk f n k Q := by
  obtain ⟨x, h1, h2⟩ := pz_bd hf
  exact pz_callV hC hK d hy hyv hlk (hM x h1).1 (hM x h1).2 hn hst hW hR hr (kk x h2)
theorem pz_VU {α : Type} {F : Option Int32} {g : Int32 → Option α} {r : α} {x : MethodName} {owner : String} (hC : pz_OK G C cc nL own) (hK : pz_K C rt0 fr0 lo0 mc0 ms0) (d : pz_d cc pc 3 pc' (.invokevirtual idx)) (hy : pz_y y cy mL rt np) (hyx : y = ⟨owner, x.name, x.desc⟩) (hin : Cond.instanceMethod y ∈ lw_tbl) (hse : Cond.selects Cn x y ∈ lw_tbl) (hsm : Cond.sameMethod x.cls owner x.name x.desc ∈ lw_tbl) (hrc : pz_rc ci Cn) (hlk : Cond.methodLink own idx x ∈ lw_tbl) (hf : F.bind g = some r) (hM : ∀ x, F = some x → pz_Met C.2.1 G y cy mL rt fr lo 0 0 (.ref b :: As) f (some (.int x)) f ∧ pz_is f b ci = some ()) (hn : As.length = np) (hst : stk = As.reverse ++ .ref b :: st) (hW : (st.map fun v => v.category).sum ≤ 8) (hR : fr + 1 ≤ fr0 ∧ 8 + (mL + 11) + lo ≤ lo0) (hr : n ≤ mc0 ∧ k ≤ ms0) (kk : ∀ x, g x = some r → pz_W G C nL pc' lv (.int x :: st) f n k Q) : pz_W G C nL pc lv stk f n k Q := by
  obtain ⟨x, h1, h2⟩ := pz_bd hf
  exact pz_callU hC hK d hy hyx hin hse hsm hrc hlk (hM x h1).1 (hM x h1).2 hn hst hW hR hr (kk x h2)
/-- a byte's, a char's int -/
def pz_nb (x : Int32) : Option Int32 := if x.toInt8.toInt32 = x then some x else none
def pz_nc (x : Int32) : Option Int32 := if (x.toUInt32 % 65536).toInt32 = x then some x else none
theorem pz_bret {x r : Int32} (hC : pz_OK G C cc nL own) (hK : pz_K C (some .byte) fr0 lo0 mc0 ms0) (d : pz_d cc pc 1 pc' .ireturn) (hf : pz_nb x = some r) : pz_W G C nL pc lv [.int x] f n k (pz_Q G C (some (.int r)) f n k) := by
  unfold pz_nb at hf
  by_cases hx : x.toInt8.toInt32 = x
  · rw [if_pos hx] at hf; cases hf; exact pz_zret0 hC hK d (by have h := pk_nb x; rw [hx] at h; exact h)
  · rw [if_neg hx] at hf; cases hf
theorem pz_cret {x r : Int32} (hC : pz_OK G C cc nL own) (hK : pz_K C (some .char) fr0 lo0 mc0 ms0) (d : pz_d cc pc 1 pc' .ireturn) (hf : pz_nc x = some r) : pz_W G C nL pc lv [.int x] f n k (pz_Q G C (some (.int r)) f n k) := by
  unfold pz_nc at hf
  by_cases hx : (x.toUInt32 % 65536).toInt32 = x
  · rw [if_pos hx] at hf; cases hf; exact pz_zret0 hC hK d (by have h := pk_nc x; rw [hx] at h; exact h)
  · rw [if_neg hx] at hf; cases hf
theorem pz_i2c {x : Int32} (hC : pz_OK G C cc nL own) (d : pz_d cc pc 1 pc' .i2c) (kk : pz_W G C nL pc' lv (.int (x.toUInt32 % 65536).toInt32 :: st) f n k Q) : pz_W G C nL pc lv (.int x :: st) f n k Q := by
  intro H locs ls hD hF hl
  obtain ⟨d1, rfl⟩ := d
  exact lv_i2c hC.1 hC.2.1 d1 rfl (kk H locs ls hD hF hl)
theorem pz_getsQ (hC : pz_OK G C cc nL own) (d : pz_d cc pc 3 pc' (.getstatic idx)) (hlk : Cond.fieldLink own idx "jdk/internal/util/Preconditions" "SIOOBE_FORMATTER" "Ljava/util/function/BiFunction;" ∈ lw_tbl) (kk : ∀ x : Option Nat, pz_W G C nL pc' lv (va_rf x :: st) f n k Q) : pz_W G C nL pc lv st f n k Q := by
  intro H locs ls hD hF hl
  obtain ⟨d1, rfl⟩ := d
  have hT := hC.2.2.2.2.2
  have key : ∀ x : Option Nat, va_Z "jdk/internal/util/Preconditions" "SIOOBE_FORMATTER" "Ljava/util/function/BiFunction;" (va_rf x) (pz_A G) (pz_s C) G.2.2.1 → W C.1 C.2.1 C.2.2.1 (pz_R C) (pz_s C) (pz_m C) (pz_as C) (pz_bl C) (pz_me C) (pz_co C) H locs n k Q (F0 (pz_m C) pc ls st) := by
    intro x hz
    obtain ⟨cf, kf, fi, fl, a, cell, h1, h2, h3, h4, h5, h6, h7, h8⟩ := hz
    have ha : a < pz_z G := Nat.not_le.mp h8
    exact W.gets hC.1 hC.2.1 hC.2.2.2.1 (hT.wd hlk rfl _) h1 h2 h3 h4 (by rw [hD.2.2.2.2.2 a ha]; exact h5) (fun e => by rw [e] at h6; cases h6) h7 rfl d1 (kk x H locs ls hD hF hl)
  rcases hT.2.2.1.2.2.2.2 with h | ⟨t, h⟩
  · exact key none h
  · exact key (some t) h
theorem pz_lkup {dflt : Int} {qs : Array (Int × Int)} {len : Nat} {x : Int32} {off : Int} {tgt : Nat} (hC : pz_OK G C cc nL own) (d : pz_d cc pc len pc' (.lookupswitch dflt qs)) (hp : (qs.toList.zip (qs.toList.drop 1)).all (fun (a, next) => a.1 < next.1) = true) (ho : Op.lookupswitch.offset qs.toList dflt x.toInt = off) (ht : (pc : Int) + off = (tgt : Int)) (kk : pz_W G C nL tgt lv st f n k Q) : pz_W G C nL pc lv (.int x :: st) f n k Q := by
  intro H locs ls hD hF hl
  exact lv_lookup hC.1 hC.2.1 d.1 hp ho ht (kk H locs ls hD hF hl)
theorem pz_mmax {x y : Int32} (hC : pz_OK G C cc nL own) (hK : pz_K C rt0 fr0 lo0 mc0 ms0) (d : pz_d cc pc 3 pc' (.invokestatic idx)) (h1 : Cond.methodLink own idx Lib.Math.max.name ∈ lw_tbl) (h2 : Cond.static Lib.Math.max.name ∈ lw_tbl) (h3 : Cond.initialized "java/lang/Math" ∈ lw_tbl) (h4 : Cond.code Lib.Math.max.name Lib.Math.max.code 2 (some .int) ∈ lw_tbl) (hfr : 1 ≤ fr0) (hlo : (st.map fun v => v.category).sum + 13 ≤ lo0) (hr : n ≤ mc0 ∧ k ≤ ms0) (kk : pz_W G C nL pc' lv (.int (if x < y then y else x) :: st) f n k Q) : pz_W G C nL pc lv (.int y :: .int x :: st) f n k Q := by
  intro H locs ls hD hF hl
  obtain ⟨d1, rfl⟩ := d
  have hT := hC.2.2.2.2.2
  exact va_mmax hC.1 hC.2.1 (hC.2.2.1.trans hl.1.symm) hC.2.2.2.1 (hT.wd h1 rfl _) (hT.wd h2 rfl _) (hT.wd h3 rfl _) (hT.wd h4 rfl _) (by rw [hK.2]; exact hfr) (by rw [hK.2]; exact hlo) (by rw [hK.2]; exact hr.1) (by rw [hK.2]; exact hr.2) d1 (kk H locs ls hD hF hl)
theorem pz_mmin {x y : Int64} (hC : pz_OK G C cc nL own) (hK : pz_K C rt0 fr0 lo0 mc0 ms0) (d : pz_d cc pc 3 pc' (.invokestatic idx)) (h1 : Cond.methodLink own idx Lib.MathLoose.min_long.x ∈ lw_tbl) (h2 : Cond.static Lib.MathLoose.min_long.x ∈ lw_tbl) (h3 : Cond.initialized "java/lang/Math" ∈ lw_tbl) (h4 : Cond.code Lib.MathLoose.min_long.x Lib.MathLoose.min_long.code 4 (some .long) ∈ lw_tbl) (hfr : 1 ≤ fr0) (hlo : (st.map fun v => v.category).sum + 15 ≤ lo0) (hr : n ≤ mc0 ∧ k ≤ ms0) (kk : pz_W G C nL pc' lv (.long (if y < x then y else x) :: st) f n k Q) : pz_W G C nL pc lv (.long y :: .long x :: st) f n k Q := by
  intro H locs ls hD hF hl
  obtain ⟨d1, rfl⟩ := d
  have hT := hC.2.2.2.2.2
  exact va_mmin_long hC.1 hC.2.1 (hC.2.2.1.trans hl.1.symm) hC.2.2.2.1 (hT.wd h1 rfl _) (hT.wd h2 rfl _) (hT.wd h3 rfl _) (hT.wd h4 rfl _) (by rw [hK.2]; exact hfr) (by rw [hK.2]; exact hlo) (by rw [hK.2]; exact hr.1) (by rw [hK.2]; exact hr.2) d1 (kk H locs ls hD hF hl)
theorem pz_pop {v : Value} (hC : pz_OK G C cc nL own) (d : pz_d cc pc 1 pc' .pop) (hv : v.category = 1) (kk : pz_W G C nL pc' lv st f n k Q) : pz_W G C nL pc lv (v :: st) f n k Q := by
  intro H locs ls hD hF hl
  obtain ⟨d1, rfl⟩ := d
  exact lv_pop hC.1 hC.2.1 d1 hv (kk H locs ls hD hF hl)
end PZX
