/-! ===== blocks of cells: pure reads and writes ===== -/
theorem bs {α β : Type} (a : α) (g : α → Option β) : (some a).bind g = g a := rfl
def BU (b n : Nat) (c : Nat → Option pz_E) (g : pz_H) : pz_H := (fun a => if b ≤ a ∧ a < b + n then c (a - b) else g.1 a, g.2)
theorem BU_at {b n o : Nat} {c : Nat → Option pz_E} {g : pz_H} (h : o < n) : (BU b n c g).1 (b + o) = c o := by
  show (if b ≤ b + o ∧ b + o < b + n then c (b + o - b) else g.1 (b + o)) = c o
  rw [if_pos ⟨by omega, by omega⟩, Nat.add_sub_cancel_left]
theorem BU_0 {b n : Nat} {c : Nat → Option pz_E} {g : pz_H} (h : 0 < n) : (BU b n c g).1 b = c 0 := BU_at (o := 0) h
theorem BU_ne {b n a : Nat} {c : Nat → Option pz_E} {g : pz_H} (h : a < b ∨ b + n ≤ a) : (BU b n c g).1 a = g.1 a := by
  show (if b ≤ a ∧ a < b + n then c (a - b) else g.1 a) = _
  rw [if_neg (by omega)]
theorem BU_up {b n o : Nat} {c : Nat → Option pz_E} {g : pz_H} {e : pz_E} (h : o < n) : pz_up (BU b n c g) (b + o) e = BU b n (va_up c o (some e)) g := by
  unfold pz_up BU
  refine Prod.ext ?_ rfl
  funext a
  show va_up _ _ _ a = _
  unfold va_up
  by_cases ha : a = b + o
  · subst ha
    dsimp only
    rw [if_pos rfl, if_pos ⟨by omega, by omega⟩, Nat.add_sub_cancel_left, if_pos rfl]
  · rw [if_neg ha]
    by_cases hb : b ≤ a ∧ a < b + n
    · simp only [if_pos hb]
      rw [if_neg (by omega)]
    · simp only [if_neg hb]
theorem BU_up0 {b n : Nat} {c : Nat → Option pz_E} {g : pz_H} {e : pz_E} (h : 0 < n) : pz_up (BU b n c g) b e = BU b n (va_up c 0 (some e)) g := BU_up (o := 0) h
theorem BU_BU {b n : Nat} {c d : Nat → Option pz_E} {g : pz_H} : BU b n c (BU b n d g) = BU b n c g := by
  unfold BU
  refine Prod.ext ?_ rfl
  funext a
  dsimp only
  by_cases hb : b ≤ a ∧ a < b + n
  · simp only [if_pos hb]
  · simp only [if_neg hb]
theorem BU_comm {b n b' n' : Nat} {c d : Nat → Option pz_E} {g : pz_H} (h : b + n ≤ b' ∨ b' + n' ≤ b) : BU b n c (BU b' n' d g) = BU b' n' d (BU b n c g) := by
  unfold BU
  refine Prod.ext ?_ rfl
  funext a
  dsimp only
  by_cases hb : b ≤ a ∧ a < b + n
  · rw [if_pos hb, if_neg (by omega), if_pos hb]
  · rw [if_neg hb]
    by_cases hb' : b' ≤ a ∧ a < b' + n'
    · rw [if_pos hb', if_pos hb']
    · rw [if_neg hb', if_neg hb', if_neg hb]
/-- in range -/
theorem inr_of {i : Int32} {k n : Nat} (hi : i = nI k) (hk : k < n) (hn : n < 2 ^ 31) : ¬ (i < 0 ∨ n ≤ i.toNatClampNeg) ∧ i.toNatClampNeg = k := by
  subst hi
  have h1 := nI_clamp (n := k) (by omega)
  refine ⟨nI_in hk hn, h1⟩
theorem aI_of {f : pz_H} {a t n k : Nat} {g : Nat → Int32} {i : Int32} (h : f.1 a = some (.inr (t, n, .inl g))) (hi : i = nI k) (hk : k < n) (hn : n < 2 ^ 31) : pz_aI f a t i = some (g k) := by
  obtain ⟨h1, h2⟩ := inr_of hi hk hn
  unfold pz_aI; rw [h]; dsimp only; rw [if_pos ⟨rfl, h1⟩, h2]
theorem aL_of {f : pz_H} {a t n k : Nat} {g : Nat → Int64} {i : Int32} (h : f.1 a = some (.inr (t, n, .inr (.inl g)))) (hi : i = nI k) (hk : k < n) (hn : n < 2 ^ 31) : pz_aL f a t i = some (g k) := by
  obtain ⟨h1, h2⟩ := inr_of hi hk hn
  unfold pz_aL; rw [h]; dsimp only; rw [if_pos ⟨rfl, h1⟩, h2]
theorem aR_of {f : pz_H} {a t n k : Nat} {g : Nat → Option Nat} {i : Int32} (h : f.1 a = some (.inr (t, n, .inr (.inr g)))) (hi : i = nI k) (hk : k < n) (hn : n < 2 ^ 31) : pz_aR f a t i = g k := by
  obtain ⟨h1, h2⟩ := inr_of hi hk hn
  unfold pz_aR; rw [h]; dsimp only; rw [if_pos ⟨rfl, h1⟩, h2]
theorem tI_of {f : pz_H} {a t n k : Nat} {g : Nat → Int32} {i x : Int32} (h : f.1 a = some (.inr (t, n, .inl g))) (hi : i = nI k) (hk : k < n) (hn : n < 2 ^ 31) : pz_tI f a t i x = some (pz_up f a (.inr (t, n, .inl (upd g k x)))) := by
  obtain ⟨h1, h2⟩ := inr_of hi hk hn
  unfold pz_tI; rw [h]; dsimp only; rw [if_pos ⟨rfl, h1⟩, h2]
theorem tL_of {f : pz_H} {a t n k : Nat} {g : Nat → Int64} {i : Int32} {x : Int64} (h : f.1 a = some (.inr (t, n, .inr (.inl g)))) (hi : i = nI k) (hk : k < n) (hn : n < 2 ^ 31) : pz_tL f a t i x = some (pz_up f a (.inr (t, n, .inr (.inl (vp_updL g k x))))) := by
  obtain ⟨h1, h2⟩ := inr_of hi hk hn
  unfold pz_tL; rw [h]; dsimp only; rw [if_pos ⟨rfl, h1⟩, h2]
theorem sV_of {f : pz_H} {a ci j : Nat} {fs : List Value} {v : Value} (h : f.1 a = some (.inl (ci, fs))) (hj : j < fs.length) : pz_sV f a ci j v = some (pz_up f a (.inl (ci, fs.set j v))) := by
  unfold pz_sV; rw [h]; dsimp only; rw [if_pos ⟨rfl, hj⟩]
theorem gV_of {f : pz_H} {a ci j : Nat} {fs : List Value} {v : Value} (h : f.1 a = some (.inl (ci, fs))) (hj : fs[j]? = some v) : pz_gV f a ci j = some v := by
  unfold pz_gV; rw [h]; dsimp only; rw [if_pos rfl, hj]
theorem gI_of {f : pz_H} {a ci j : Nat} {fs : List Value} {v : Int32} (h : f.1 a = some (.inl (ci, fs))) (hj : fs[j]? = some (.int v)) : pz_gI f a ci j = some v := by
  unfold pz_gI; rw [gV_of h hj]
theorem gR_of {f : pz_H} {a ci j : Nat} {fs : List Value} {v : Nat} (h : f.1 a = some (.inl (ci, fs))) (hj : fs[j]? = some (.ref v)) : pz_gR f a ci j = some v := by
  unfold pz_gR; rw [gV_of h hj]
theorem is_of {f : pz_H} {a ci : Nat} {fs : List Value} (h : f.1 a = some (.inl (ci, fs))) : pz_is f a ci = some () := by
  unfold pz_is; rw [h]; dsimp only; rw [if_pos rfl]
/-! ===== the reference's object: ints iv, int rows ia (w was draft event tape told), long rows la (wholes worthOf oddsMember oddsSpouse owns) ===== -/
def MF (mo : Nat) (iv : Nat → Int32) : List Value := [.int (iv 0), .ref (mo + 1), .ref (mo + 2), .ref (mo + 3), .int (iv 4), .ref (mo + 4), .int (iv 6), .ref (mo + 5), .ref (mo + 6), .ref (mo + 7), .ref (mo + 8), .ref (mo + 9), .int (iv 12), .ref (mo + 10), .int (iv 14), .int (iv 15), .int (iv 16), .int (iv 17), .int (iv 18), .int (iv 19), .int (iv 20), .ref (mo + 11)]
def MC (mo : Nat) (iv : Nat → Int32) (ia : Nat → Nat → Int32) (la : Nat → Nat → Int64) : Nat → Option pz_E := fun o => match o with
  | 0 => some (.inl (9, MF mo iv))
  | 1 => some (.inr (0, 87, .inl (ia 0)))
  | 2 => some (.inr (0, 1044, .inl (ia 1)))
  | 3 => some (.inr (0, 87, .inl (ia 2)))
  | 4 => some (.inr (1, 1800, .inr (.inl (la 0))))
  | 5 => some (.inr (1, 1800, .inr (.inl (la 1))))
  | 6 => some (.inr (1, 1800, .inr (.inl (la 2))))
  | 7 => some (.inr (1, 1800, .inr (.inl (la 3))))
  | 8 => some (.inr (1, 4, .inr (.inl (la 4))))
  | 9 => some (.inr (0, 64, .inl (ia 3)))
  | 10 => some (.inr (0, 400, .inl (ia 4)))
  | 11 => some (.inr (0, 4, .inl (ia 5)))
  | _ => none
def MH (mo : Nat) (iv : Nat → Int32) (ia : Nat → Nat → Int32) (la : Nat → Nat → Int64) (g : pz_H) : pz_H := BU mo 12 (MC mo iv ia la) g
section MHS
variable {mo : Nat} {iv : Nat → Int32} {ia : Nat → Nat → Int32} {la : Nat → Nat → Int64} {g : pz_H}
theorem mh_0 : (MH mo iv ia la g).1 mo = some (.inl (9, MF mo iv)) := by
  unfold MH; rw [BU_0 (by decide)]; rfl
theorem mh_is : pz_is (MH mo iv ia la g) mo 9 = some () := is_of mh_0
theorem mh_g0 : pz_gI (MH mo iv ia la g) mo 9 0 = some (iv 0) := gI_of mh_0 rfl
theorem mh_g4 : pz_gI (MH mo iv ia la g) mo 9 4 = some (iv 4) := gI_of mh_0 rfl
theorem mh_g6 : pz_gI (MH mo iv ia la g) mo 9 6 = some (iv 6) := gI_of mh_0 rfl
theorem mh_g12 : pz_gI (MH mo iv ia la g) mo 9 12 = some (iv 12) := gI_of mh_0 rfl
theorem mh_g14 : pz_gI (MH mo iv ia la g) mo 9 14 = some (iv 14) := gI_of mh_0 rfl
theorem mh_g15 : pz_gI (MH mo iv ia la g) mo 9 15 = some (iv 15) := gI_of mh_0 rfl
theorem mh_g16 : pz_gI (MH mo iv ia la g) mo 9 16 = some (iv 16) := gI_of mh_0 rfl
theorem mh_g17 : pz_gI (MH mo iv ia la g) mo 9 17 = some (iv 17) := gI_of mh_0 rfl
theorem mh_g18 : pz_gI (MH mo iv ia la g) mo 9 18 = some (iv 18) := gI_of mh_0 rfl
theorem mh_g19 : pz_gI (MH mo iv ia la g) mo 9 19 = some (iv 19) := gI_of mh_0 rfl
theorem mh_g20 : pz_gI (MH mo iv ia la g) mo 9 20 = some (iv 20) := gI_of mh_0 rfl
theorem mh_r1 : pz_gR (MH mo iv ia la g) mo 9 1 = some (mo + 1) := gR_of mh_0 rfl
theorem mh_r2 : pz_gR (MH mo iv ia la g) mo 9 2 = some (mo + 2) := gR_of mh_0 rfl
theorem mh_r3 : pz_gR (MH mo iv ia la g) mo 9 3 = some (mo + 3) := gR_of mh_0 rfl
theorem mh_r5 : pz_gR (MH mo iv ia la g) mo 9 5 = some (mo + 4) := gR_of mh_0 rfl
theorem mh_r7 : pz_gR (MH mo iv ia la g) mo 9 7 = some (mo + 5) := gR_of mh_0 rfl
theorem mh_r8 : pz_gR (MH mo iv ia la g) mo 9 8 = some (mo + 6) := gR_of mh_0 rfl
theorem mh_r9 : pz_gR (MH mo iv ia la g) mo 9 9 = some (mo + 7) := gR_of mh_0 rfl
theorem mh_r10 : pz_gR (MH mo iv ia la g) mo 9 10 = some (mo + 8) := gR_of mh_0 rfl
theorem mh_r11 : pz_gR (MH mo iv ia la g) mo 9 11 = some (mo + 9) := gR_of mh_0 rfl
theorem mh_r13 : pz_gR (MH mo iv ia la g) mo 9 13 = some (mo + 10) := gR_of mh_0 rfl
theorem mh_r21 : pz_gR (MH mo iv ia la g) mo 9 21 = some (mo + 11) := gR_of mh_0 rfl
theorem mh_s0 {v : Int32} : pz_sV (MH mo iv ia la g) mo 9 0 (.int v) = some (MH mo (va_up iv 0 v) ia la g) := by
  rw [sV_of mh_0 (show 0 < 22 by decide)]; unfold MH; rw [BU_up0 (by decide)]
  congr 2; funext o; match o with
  | 0 => rfl
  | 1 => rfl
  | 2 => rfl
  | 3 => rfl
  | 4 => rfl
  | 5 => rfl
  | 6 => rfl
  | 7 => rfl
  | 8 => rfl
  | 9 => rfl
  | 10 => rfl
  | 11 => rfl
  | n + 12 => rfl
theorem mh_s4 {v : Int32} : pz_sV (MH mo iv ia la g) mo 9 4 (.int v) = some (MH mo (va_up iv 4 v) ia la g) := by
  rw [sV_of mh_0 (show 4 < 22 by decide)]; unfold MH; rw [BU_up0 (by decide)]
  congr 2; funext o; match o with
  | 0 => rfl
  | 1 => rfl
  | 2 => rfl
  | 3 => rfl
  | 4 => rfl
  | 5 => rfl
  | 6 => rfl
  | 7 => rfl
  | 8 => rfl
  | 9 => rfl
  | 10 => rfl
  | 11 => rfl
  | n + 12 => rfl
theorem mh_s6 {v : Int32} : pz_sV (MH mo iv ia la g) mo 9 6 (.int v) = some (MH mo (va_up iv 6 v) ia la g) := by
  rw [sV_of mh_0 (show 6 < 22 by decide)]; unfold MH; rw [BU_up0 (by decide)]
  congr 2; funext o; match o with
  | 0 => rfl
  | 1 => rfl
  | 2 => rfl
  | 3 => rfl
  | 4 => rfl
  | 5 => rfl
  | 6 => rfl
  | 7 => rfl
  | 8 => rfl
  | 9 => rfl
  | 10 => rfl
  | 11 => rfl
  | n + 12 => rfl
theorem mh_s12 {v : Int32} : pz_sV (MH mo iv ia la g) mo 9 12 (.int v) = some (MH mo (va_up iv 12 v) ia la g) := by
  rw [sV_of mh_0 (show 12 < 22 by decide)]; unfold MH; rw [BU_up0 (by decide)]
  congr 2; funext o; match o with
  | 0 => rfl
  | 1 => rfl
  | 2 => rfl
  | 3 => rfl
  | 4 => rfl
  | 5 => rfl
  | 6 => rfl
  | 7 => rfl
  | 8 => rfl
  | 9 => rfl
  | 10 => rfl
  | 11 => rfl
  | n + 12 => rfl
theorem mh_s14 {v : Int32} : pz_sV (MH mo iv ia la g) mo 9 14 (.int v) = some (MH mo (va_up iv 14 v) ia la g) := by
  rw [sV_of mh_0 (show 14 < 22 by decide)]; unfold MH; rw [BU_up0 (by decide)]
  congr 2; funext o; match o with
  | 0 => rfl
  | 1 => rfl
  | 2 => rfl
  | 3 => rfl
  | 4 => rfl
  | 5 => rfl
  | 6 => rfl
  | 7 => rfl
  | 8 => rfl
  | 9 => rfl
  | 10 => rfl
  | 11 => rfl
  | n + 12 => rfl
theorem mh_s15 {v : Int32} : pz_sV (MH mo iv ia la g) mo 9 15 (.int v) = some (MH mo (va_up iv 15 v) ia la g) := by
  rw [sV_of mh_0 (show 15 < 22 by decide)]; unfold MH; rw [BU_up0 (by decide)]
  congr 2; funext o; match o with
  | 0 => rfl
  | 1 => rfl
  | 2 => rfl
  | 3 => rfl
  | 4 => rfl
  | 5 => rfl
  | 6 => rfl
  | 7 => rfl
  | 8 => rfl
  | 9 => rfl
  | 10 => rfl
  | 11 => rfl
  | n + 12 => rfl
theorem mh_s16 {v : Int32} : pz_sV (MH mo iv ia la g) mo 9 16 (.int v) = some (MH mo (va_up iv 16 v) ia la g) := by
  rw [sV_of mh_0 (show 16 < 22 by decide)]; unfold MH; rw [BU_up0 (by decide)]
  congr 2; funext o; match o with
  | 0 => rfl
  | 1 => rfl
  | 2 => rfl
  | 3 => rfl
  | 4 => rfl
  | 5 => rfl
  | 6 => rfl
  | 7 => rfl
  | 8 => rfl
  | 9 => rfl
  | 10 => rfl
  | 11 => rfl
  | n + 12 => rfl
theorem mh_s17 {v : Int32} : pz_sV (MH mo iv ia la g) mo 9 17 (.int v) = some (MH mo (va_up iv 17 v) ia la g) := by
  rw [sV_of mh_0 (show 17 < 22 by decide)]; unfold MH; rw [BU_up0 (by decide)]
  congr 2; funext o; match o with
  | 0 => rfl
  | 1 => rfl
  | 2 => rfl
  | 3 => rfl
  | 4 => rfl
  | 5 => rfl
  | 6 => rfl
  | 7 => rfl
  | 8 => rfl
  | 9 => rfl
  | 10 => rfl
  | 11 => rfl
  | n + 12 => rfl
theorem mh_s18 {v : Int32} : pz_sV (MH mo iv ia la g) mo 9 18 (.int v) = some (MH mo (va_up iv 18 v) ia la g) := by
  rw [sV_of mh_0 (show 18 < 22 by decide)]; unfold MH; rw [BU_up0 (by decide)]
  congr 2; funext o; match o with
  | 0 => rfl
  | 1 => rfl
  | 2 => rfl
  | 3 => rfl
  | 4 => rfl
  | 5 => rfl
  | 6 => rfl
  | 7 => rfl
  | 8 => rfl
  | 9 => rfl
  | 10 => rfl
  | 11 => rfl
  | n + 12 => rfl
theorem mh_s19 {v : Int32} : pz_sV (MH mo iv ia la g) mo 9 19 (.int v) = some (MH mo (va_up iv 19 v) ia la g) := by
  rw [sV_of mh_0 (show 19 < 22 by decide)]; unfold MH; rw [BU_up0 (by decide)]
  congr 2; funext o; match o with
  | 0 => rfl
  | 1 => rfl
  | 2 => rfl
  | 3 => rfl
  | 4 => rfl
  | 5 => rfl
  | 6 => rfl
  | 7 => rfl
  | 8 => rfl
  | 9 => rfl
  | 10 => rfl
  | 11 => rfl
  | n + 12 => rfl
theorem mh_s20 {v : Int32} : pz_sV (MH mo iv ia la g) mo 9 20 (.int v) = some (MH mo (va_up iv 20 v) ia la g) := by
  rw [sV_of mh_0 (show 20 < 22 by decide)]; unfold MH; rw [BU_up0 (by decide)]
  congr 2; funext o; match o with
  | 0 => rfl
  | 1 => rfl
  | 2 => rfl
  | 3 => rfl
  | 4 => rfl
  | 5 => rfl
  | 6 => rfl
  | 7 => rfl
  | 8 => rfl
  | 9 => rfl
  | 10 => rfl
  | 11 => rfl
  | n + 12 => rfl
theorem mh_i0 {i : Int32} {k : Nat} (hi : i = nI k) (hk : k < 87) : pz_aI (MH mo iv ia la g) (mo + 1) 0 i = some (ia 0 k) := aI_of (n := 87) (by unfold MH; rw [BU_at (by decide)]; rfl) hi hk (by decide)
theorem mh_t0 {i x : Int32} {k : Nat} (hi : i = nI k) (hk : k < 87) : pz_tI (MH mo iv ia la g) (mo + 1) 0 i x = some (MH mo iv (va_up ia 0 (upd (ia 0) k x)) la g) := by
  rw [tI_of (n := 87) (g := ia 0) (by unfold MH; rw [BU_at (by decide)]; rfl) hi hk (by decide)]
  unfold MH; rw [BU_up (by decide)]
  congr 2; funext o; match o with
  | 0 => rfl
  | 1 => rfl
  | 2 => rfl
  | 3 => rfl
  | 4 => rfl
  | 5 => rfl
  | 6 => rfl
  | 7 => rfl
  | 8 => rfl
  | 9 => rfl
  | 10 => rfl
  | 11 => rfl
  | n + 12 => rfl
theorem mh_i1 {i : Int32} {k : Nat} (hi : i = nI k) (hk : k < 1044) : pz_aI (MH mo iv ia la g) (mo + 2) 0 i = some (ia 1 k) := aI_of (n := 1044) (by unfold MH; rw [BU_at (by decide)]; rfl) hi hk (by decide)
theorem mh_t1 {i x : Int32} {k : Nat} (hi : i = nI k) (hk : k < 1044) : pz_tI (MH mo iv ia la g) (mo + 2) 0 i x = some (MH mo iv (va_up ia 1 (upd (ia 1) k x)) la g) := by
  rw [tI_of (n := 1044) (g := ia 1) (by unfold MH; rw [BU_at (by decide)]; rfl) hi hk (by decide)]
  unfold MH; rw [BU_up (by decide)]
  congr 2; funext o; match o with
  | 0 => rfl
  | 1 => rfl
  | 2 => rfl
  | 3 => rfl
  | 4 => rfl
  | 5 => rfl
  | 6 => rfl
  | 7 => rfl
  | 8 => rfl
  | 9 => rfl
  | 10 => rfl
  | 11 => rfl
  | n + 12 => rfl
theorem mh_i2 {i : Int32} {k : Nat} (hi : i = nI k) (hk : k < 87) : pz_aI (MH mo iv ia la g) (mo + 3) 0 i = some (ia 2 k) := aI_of (n := 87) (by unfold MH; rw [BU_at (by decide)]; rfl) hi hk (by decide)
theorem mh_t2 {i x : Int32} {k : Nat} (hi : i = nI k) (hk : k < 87) : pz_tI (MH mo iv ia la g) (mo + 3) 0 i x = some (MH mo iv (va_up ia 2 (upd (ia 2) k x)) la g) := by
  rw [tI_of (n := 87) (g := ia 2) (by unfold MH; rw [BU_at (by decide)]; rfl) hi hk (by decide)]
  unfold MH; rw [BU_up (by decide)]
  congr 2; funext o; match o with
  | 0 => rfl
  | 1 => rfl
  | 2 => rfl
  | 3 => rfl
  | 4 => rfl
  | 5 => rfl
  | 6 => rfl
  | 7 => rfl
  | 8 => rfl
  | 9 => rfl
  | 10 => rfl
  | 11 => rfl
  | n + 12 => rfl
theorem mh_i3 {i : Int32} {k : Nat} (hi : i = nI k) (hk : k < 64) : pz_aI (MH mo iv ia la g) (mo + 9) 0 i = some (ia 3 k) := aI_of (n := 64) (by unfold MH; rw [BU_at (by decide)]; rfl) hi hk (by decide)
theorem mh_t3 {i x : Int32} {k : Nat} (hi : i = nI k) (hk : k < 64) : pz_tI (MH mo iv ia la g) (mo + 9) 0 i x = some (MH mo iv (va_up ia 3 (upd (ia 3) k x)) la g) := by
  rw [tI_of (n := 64) (g := ia 3) (by unfold MH; rw [BU_at (by decide)]; rfl) hi hk (by decide)]
  unfold MH; rw [BU_up (by decide)]
  congr 2; funext o; match o with
  | 0 => rfl
  | 1 => rfl
  | 2 => rfl
  | 3 => rfl
  | 4 => rfl
  | 5 => rfl
  | 6 => rfl
  | 7 => rfl
  | 8 => rfl
  | 9 => rfl
  | 10 => rfl
  | 11 => rfl
  | n + 12 => rfl
theorem mh_i4 {i : Int32} {k : Nat} (hi : i = nI k) (hk : k < 400) : pz_aI (MH mo iv ia la g) (mo + 10) 0 i = some (ia 4 k) := aI_of (n := 400) (by unfold MH; rw [BU_at (by decide)]; rfl) hi hk (by decide)
theorem mh_t4 {i x : Int32} {k : Nat} (hi : i = nI k) (hk : k < 400) : pz_tI (MH mo iv ia la g) (mo + 10) 0 i x = some (MH mo iv (va_up ia 4 (upd (ia 4) k x)) la g) := by
  rw [tI_of (n := 400) (g := ia 4) (by unfold MH; rw [BU_at (by decide)]; rfl) hi hk (by decide)]
  unfold MH; rw [BU_up (by decide)]
  congr 2; funext o; match o with
  | 0 => rfl
  | 1 => rfl
  | 2 => rfl
  | 3 => rfl
  | 4 => rfl
  | 5 => rfl
  | 6 => rfl
  | 7 => rfl
  | 8 => rfl
  | 9 => rfl
  | 10 => rfl
  | 11 => rfl
  | n + 12 => rfl
theorem mh_i5 {i : Int32} {k : Nat} (hi : i = nI k) (hk : k < 4) : pz_aI (MH mo iv ia la g) (mo + 11) 0 i = some (ia 5 k) := aI_of (n := 4) (by unfold MH; rw [BU_at (by decide)]; rfl) hi hk (by decide)
theorem mh_t5 {i x : Int32} {k : Nat} (hi : i = nI k) (hk : k < 4) : pz_tI (MH mo iv ia la g) (mo + 11) 0 i x = some (MH mo iv (va_up ia 5 (upd (ia 5) k x)) la g) := by
  rw [tI_of (n := 4) (g := ia 5) (by unfold MH; rw [BU_at (by decide)]; rfl) hi hk (by decide)]
  unfold MH; rw [BU_up (by decide)]
  congr 2; funext o; match o with
  | 0 => rfl
  | 1 => rfl
  | 2 => rfl
  | 3 => rfl
  | 4 => rfl
  | 5 => rfl
  | 6 => rfl
  | 7 => rfl
  | 8 => rfl
  | 9 => rfl
  | 10 => rfl
  | 11 => rfl
  | n + 12 => rfl
theorem mh_l0 {i : Int32} {k : Nat} (hi : i = nI k) (hk : k < 1800) : pz_aL (MH mo iv ia la g) (mo + 4) 1 i = some (la 0 k) := aL_of (n := 1800) (by unfold MH; rw [BU_at (by decide)]; rfl) hi hk (by decide)
theorem mh_u0 {i : Int32} {x : Int64} {k : Nat} (hi : i = nI k) (hk : k < 1800) : pz_tL (MH mo iv ia la g) (mo + 4) 1 i x = some (MH mo iv ia (va_up la 0 (vp_updL (la 0) k x)) g) := by
  rw [tL_of (n := 1800) (g := la 0) (by unfold MH; rw [BU_at (by decide)]; rfl) hi hk (by decide)]
  unfold MH; rw [BU_up (by decide)]
  congr 2; funext o; match o with
  | 0 => rfl
  | 1 => rfl
  | 2 => rfl
  | 3 => rfl
  | 4 => rfl
  | 5 => rfl
  | 6 => rfl
  | 7 => rfl
  | 8 => rfl
  | 9 => rfl
  | 10 => rfl
  | 11 => rfl
  | n + 12 => rfl
theorem mh_l1 {i : Int32} {k : Nat} (hi : i = nI k) (hk : k < 1800) : pz_aL (MH mo iv ia la g) (mo + 5) 1 i = some (la 1 k) := aL_of (n := 1800) (by unfold MH; rw [BU_at (by decide)]; rfl) hi hk (by decide)
theorem mh_u1 {i : Int32} {x : Int64} {k : Nat} (hi : i = nI k) (hk : k < 1800) : pz_tL (MH mo iv ia la g) (mo + 5) 1 i x = some (MH mo iv ia (va_up la 1 (vp_updL (la 1) k x)) g) := by
  rw [tL_of (n := 1800) (g := la 1) (by unfold MH; rw [BU_at (by decide)]; rfl) hi hk (by decide)]
  unfold MH; rw [BU_up (by decide)]
  congr 2; funext o; match o with
  | 0 => rfl
  | 1 => rfl
  | 2 => rfl
  | 3 => rfl
  | 4 => rfl
  | 5 => rfl
  | 6 => rfl
  | 7 => rfl
  | 8 => rfl
  | 9 => rfl
  | 10 => rfl
  | 11 => rfl
  | n + 12 => rfl
theorem mh_l2 {i : Int32} {k : Nat} (hi : i = nI k) (hk : k < 1800) : pz_aL (MH mo iv ia la g) (mo + 6) 1 i = some (la 2 k) := aL_of (n := 1800) (by unfold MH; rw [BU_at (by decide)]; rfl) hi hk (by decide)
theorem mh_u2 {i : Int32} {x : Int64} {k : Nat} (hi : i = nI k) (hk : k < 1800) : pz_tL (MH mo iv ia la g) (mo + 6) 1 i x = some (MH mo iv ia (va_up la 2 (vp_updL (la 2) k x)) g) := by
  rw [tL_of (n := 1800) (g := la 2) (by unfold MH; rw [BU_at (by decide)]; rfl) hi hk (by decide)]
  unfold MH; rw [BU_up (by decide)]
  congr 2; funext o; match o with
  | 0 => rfl
  | 1 => rfl
  | 2 => rfl
  | 3 => rfl
  | 4 => rfl
  | 5 => rfl
  | 6 => rfl
  | 7 => rfl
  | 8 => rfl
  | 9 => rfl
  | 10 => rfl
  | 11 => rfl
  | n + 12 => rfl
theorem mh_l3 {i : Int32} {k : Nat} (hi : i = nI k) (hk : k < 1800) : pz_aL (MH mo iv ia la g) (mo + 7) 1 i = some (la 3 k) := aL_of (n := 1800) (by unfold MH; rw [BU_at (by decide)]; rfl) hi hk (by decide)
theorem mh_u3 {i : Int32} {x : Int64} {k : Nat} (hi : i = nI k) (hk : k < 1800) : pz_tL (MH mo iv ia la g) (mo + 7) 1 i x = some (MH mo iv ia (va_up la 3 (vp_updL (la 3) k x)) g) := by
  rw [tL_of (n := 1800) (g := la 3) (by unfold MH; rw [BU_at (by decide)]; rfl) hi hk (by decide)]
  unfold MH; rw [BU_up (by decide)]
  congr 2; funext o; match o with
  | 0 => rfl
  | 1 => rfl
  | 2 => rfl
  | 3 => rfl
  | 4 => rfl
  | 5 => rfl
  | 6 => rfl
  | 7 => rfl
  | 8 => rfl
  | 9 => rfl
  | 10 => rfl
  | 11 => rfl
  | n + 12 => rfl
theorem mh_l4 {i : Int32} {k : Nat} (hi : i = nI k) (hk : k < 4) : pz_aL (MH mo iv ia la g) (mo + 8) 1 i = some (la 4 k) := aL_of (n := 4) (by unfold MH; rw [BU_at (by decide)]; rfl) hi hk (by decide)
theorem mh_u4 {i : Int32} {x : Int64} {k : Nat} (hi : i = nI k) (hk : k < 4) : pz_tL (MH mo iv ia la g) (mo + 8) 1 i x = some (MH mo iv ia (va_up la 4 (vp_updL (la 4) k x)) g) := by
  rw [tL_of (n := 4) (g := la 4) (by unfold MH; rw [BU_at (by decide)]; rfl) hi hk (by decide)]
  unfold MH; rw [BU_up (by decide)]
  congr 2; funext o; match o with
  | 0 => rfl
  | 1 => rfl
  | 2 => rfl
  | 3 => rfl
  | 4 => rfl
  | 5 => rfl
  | 6 => rfl
  | 7 => rfl
  | 8 => rfl
  | 9 => rfl
  | 10 => rfl
  | 11 => rfl
  | n + 12 => rfl
theorem mh_w0 : pz_aI (MH mo iv ia la g) (mo + 1) 0 (0 : Int32) = some (ia 0 0) := mh_i0 (k := 0) (by rfl) (by decide)
theorem mh_w1 : pz_aI (MH mo iv ia la g) (mo + 1) 0 (1 : Int32) = some (ia 0 1) := mh_i0 (k := 1) (by rfl) (by decide)
theorem mh_w2 : pz_aI (MH mo iv ia la g) (mo + 1) 0 (2 : Int32) = some (ia 0 2) := mh_i0 (k := 2) (by rfl) (by decide)
theorem mh_w3 : pz_aI (MH mo iv ia la g) (mo + 1) 0 (3 : Int32) = some (ia 0 3) := mh_i0 (k := 3) (by rfl) (by decide)
theorem mh_w4 : pz_aI (MH mo iv ia la g) (mo + 1) 0 (4 : Int32) = some (ia 0 4) := mh_i0 (k := 4) (by rfl) (by decide)
theorem mh_w5 : pz_aI (MH mo iv ia la g) (mo + 1) 0 (5 : Int32) = some (ia 0 5) := mh_i0 (k := 5) (by rfl) (by decide)
theorem mh_w6 : pz_aI (MH mo iv ia la g) (mo + 1) 0 (6 : Int32) = some (ia 0 6) := mh_i0 (k := 6) (by rfl) (by decide)
theorem mh_w7 : pz_aI (MH mo iv ia la g) (mo + 1) 0 (7 : Int32) = some (ia 0 7) := mh_i0 (k := 7) (by rfl) (by decide)
theorem mh_w8 : pz_aI (MH mo iv ia la g) (mo + 1) 0 (8 : Int32) = some (ia 0 8) := mh_i0 (k := 8) (by rfl) (by decide)
theorem mh_w9 : pz_aI (MH mo iv ia la g) (mo + 1) 0 (9 : Int32) = some (ia 0 9) := mh_i0 (k := 9) (by rfl) (by decide)
theorem mh_w10 : pz_aI (MH mo iv ia la g) (mo + 1) 0 (10 : Int32) = some (ia 0 10) := mh_i0 (k := 10) (by rfl) (by decide)
end MHS
