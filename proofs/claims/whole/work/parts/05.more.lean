/-- loops' fuel: more than any loop goes round -/
def pz_F : Nat := 4000
theorem pz_case {α : Type} {x v : Int32} {A B : Option α} {r : α} {P : Prop} (hf : (if x = v then A else B) = some r) (kt : x = v → A = some r → P) (kf : ¬ x = v → B = some r → P) : P := by
  by_cases h : x = v
  · rw [if_pos h] at hf; exact kt h hf
  · rw [if_neg h] at hf; exact kf h hf
section PZX
variable {G : pz_G} {C : pz_C} {cc : ByteArray} {nL : Nat} {own : String} {pc pc' : Nat} {lv lv' : List (Nat × Value)} {st : List Value} {f : pz_H} {n k : Nat} {Q : State → Prop}
theorem pz_tabI {dflt lo hi : Int} {offs : Array Int} {len : Nat} {x v : Int32} {off : Int} {tgt : Nat} (hC : pz_OK G C cc nL own) (d : pz_d cc pc len pc' (.tableswitch dflt lo hi offs)) (c : x = v) (h1 : ¬ v.toInt < lo) (h2 : ¬ hi < v.toInt) (ho : offs[(v.toInt - lo).toNat]? = some off) (ht : (pc : Int) + off = (tgt : Int)) (kk : pz_W G C nL tgt lv st f n k Q) : pz_W G C nL pc lv (.int x :: st) f n k Q := by
  intro H locs ls hD hF hl
  subst c
  exact lv_tableIn hC.1 hC.2.1 d.1 h1 h2 ho ht (kk H locs ls hD hF hl)
theorem pz_tabO {dflt lo hi : Int} {offs : Array Int} {len : Nat} {x : Int32} {tgt : Nat} (hC : pz_OK G C cc nL own) (d : pz_d cc pc len pc' (.tableswitch dflt lo hi offs)) (h : x.toInt < lo ∨ hi < x.toInt) (ht : (pc : Int) + dflt = (tgt : Int)) (kk : pz_W G C nL tgt lv st f n k Q) : pz_W G C nL pc lv (.int x :: st) f n k Q := by
  intro H locs ls hD hF hl
  exact lv_tableOut hC.1 hC.2.1 d.1 h ht (kk H locs ls hD hF hl)
theorem pz_icmp_geT {x y : Int32} {tgt : Nat} {off : Int} (hC : pz_OK G C cc nL own) (d : pz_j cc pc pc' tgt (.if_icmp .ge off) off) (h : y ≤ x) (kk : pz_W G C nL tgt lv st f n k Q) : pz_W G C nL pc lv (.int y :: .int x :: st) f n k Q := by
  intro H locs ls hD hF hl
  exact lv_icmp_ge hC.1 hC.2.1 d.1 d.2.2 (fun _ => kk H locs ls hD hF hl) (fun c => absurd h c)
theorem pz_icmp_geF {x y : Int32} {tgt : Nat} {off : Int} (hC : pz_OK G C cc nL own) (d : pz_j cc pc pc' tgt (.if_icmp .ge off) off) (h : ¬ y ≤ x) (kk : pz_W G C nL pc' lv st f n k Q) : pz_W G C nL pc lv (.int y :: .int x :: st) f n k Q := by
  intro H locs ls hD hF hl
  obtain ⟨d1, rfl, d3⟩ := d
  exact lv_icmp_ge hC.1 hC.2.1 d1 d3 (fun c => absurd c h) (fun _ => kk H locs ls hD hF hl)
end PZX
