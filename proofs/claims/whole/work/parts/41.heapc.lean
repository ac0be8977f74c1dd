/-! ===== the class's plan and reckoner as blocks ===== -/
def SF (s : Nat → Int32) : List Value := [.int (s 0), .int (s 1), .int (s 2)]
def QF (q : Nat → Int32) : List Value := [.int (q 0), .int (q 1), .int (q 2), .int (q 3), .int (q 4), .int (q 5), .int (q 6), .int (q 7), .int (q 8)]
def PF (po : Nat) (pi : Nat → Int32) : List Value := [.int (pi 0), .int (pi 1), .int (pi 2), .ref (po + 1), .ref (po + 2), .int (pi 5), .int (pi 6), .ref (po + 3), .int (pi 8), .ref (po + 4)]
/-- a plan's cells: ints pi (9: years told), terms tm, the order of the spans sr, spans so, spouses qo, years and living tl -/
def PC (po : Nat) (pi tm : Nat → Int32) (sr : Nat → Nat) (so qo tl : Nat → Nat → Int32) : Nat → Option pz_E := fun o => match o with
  | 0 => some (.inl (2, PF po pi))
  | 1 => some (.inr (0, 5, .inl tm))
  | 2 => some (.inr (3, 8, .inr (.inr fun i => if i < 8 then some (po + 7 + sr i) else none)))
  | 3 => some (.inr (4, 4, .inr (.inr fun i => if i < 4 then some (po + 15 + i) else none)))
  | 4 => some (.inl (1, [.ref (po + 5), .ref (po + 6), .int (pi 9)]))
  | 5 => some (.inr (0, 10, .inl (tl 0)))
  | 6 => some (.inr (0, 10, .inl (tl 1)))
  | n + 7 => if n < 8 then some (.inl (5, SF (so n))) else some (.inl (6, QF (qo (n - 8))))
def PB (po : Nat) (pi tm : Nat → Int32) (sr : Nat → Nat) (so qo tl : Nat → Nat → Int32) (f : pz_H) : pz_H := BU po 19 (PC po pi tm sr so qo tl) f
/-- the heap holds this plan -/
def PlF (f : pz_H) (po : Nat) (pi tm : Nat → Int32) (sr : Nat → Nat) (so qo tl : Nat → Nat → Int32) : Prop := ∀ o, o < 19 → f.1 (po + o) = PC po pi tm sr so qo tl o
theorem BU_self {b n : Nat} {c : Nat → Option pz_E} {f : pz_H} (h : ∀ o, o < n → f.1 (b + o) = c o) : BU b n c f = f := by
  unfold BU
  refine Prod.ext ?_ rfl
  funext a
  show (if b ≤ a ∧ a < b + n then c (a - b) else f.1 a) = f.1 a
  by_cases q : b ≤ a ∧ a < b + n
  · rw [if_pos q]
    have := h (a - b) (by omega)
    rw [show b + (a - b) = a by omega] at this
    exact this.symm
  · rw [if_neg q]
/-- the heap holds a spouse, a span -/
def SpF (f : pz_H) (a : Nat) (q : Nat → Int32) : Prop := f.1 a = some (.inl (6, QF q))
section PBS
variable {po : Nat} {pi tm : Nat → Int32} {sr : Nat → Nat} {so qo tl : Nat → Nat → Int32} {f : pz_H}
theorem PB_plf : PlF (PB po pi tm sr so qo tl f) po pi tm sr so qo tl := fun _ h => BU_at h
theorem PlF.pb (h : PlF f po pi tm sr so qo tl) : PB po pi tm sr so qo tl f = f := BU_self h
theorem PlF.c0 (h : PlF f po pi tm sr so qo tl) : f.1 po = some (.inl (2, PF po pi)) := h 0 (by decide)
theorem PlF.c4 (h : PlF f po pi tm sr so qo tl) : f.1 (po + 4) = some (.inl (1, [.ref (po + 5), .ref (po + 6), .int (pi 9)])) := h 4 (by decide)
theorem PlF.cs (h : PlF f po pi tm sr so qo tl) {j : Nat} (hj : j < 8) : f.1 (po + 7 + j) = some (.inl (5, SF (so j))) := by
  have := h (j + 7) (by omega)
  rw [show po + (j + 7) = po + 7 + j by omega] at this
  rw [this]; show (if j < 8 then _ else _) = _; rw [if_pos hj]
theorem PC_q (k : Nat) : PC po pi tm sr so qo tl (k + 15) = some (Sum.inl (6, QF (qo k))) := by
  show (if k + 8 < 8 then some (Sum.inl (5, SF (so (k + 8)))) else some (Sum.inl (6, QF (qo (k + 8 - 8))))) = _
  rw [if_neg (by omega), Nat.add_sub_cancel]
theorem PlF.cq (h : PlF f po pi tm sr so qo tl) {k : Nat} (hk : k < 4) : SpF f (po + 15 + k) (qo k) := by
  have := h (k + 15) (by omega)
  rw [show po + (k + 15) = po + 15 + k by omega, PC_q] at this
  exact this
theorem p_is (h : PlF f po pi tm sr so qo tl) : pz_is f po 2 = some () := is_of h.c0
theorem p_tis (h : PlF f po pi tm sr so qo tl) : pz_is f (po + 4) 1 = some () := is_of h.c4
theorem p_g0 (h : PlF f po pi tm sr so qo tl) : pz_gI f po 2 0 = some (pi 0) := gI_of h.c0 rfl
theorem p_g1 (h : PlF f po pi tm sr so qo tl) : pz_gI f po 2 1 = some (pi 1) := gI_of h.c0 rfl
theorem p_g2 (h : PlF f po pi tm sr so qo tl) : pz_gI f po 2 2 = some (pi 2) := gI_of h.c0 rfl
theorem p_g5 (h : PlF f po pi tm sr so qo tl) : pz_gI f po 2 5 = some (pi 5) := gI_of h.c0 rfl
theorem p_g6 (h : PlF f po pi tm sr so qo tl) : pz_gI f po 2 6 = some (pi 6) := gI_of h.c0 rfl
theorem p_g8 (h : PlF f po pi tm sr so qo tl) : pz_gI f po 2 8 = some (pi 8) := gI_of h.c0 rfl
theorem p_r3 (h : PlF f po pi tm sr so qo tl) : pz_gR f po 2 3 = some (po + 1) := gR_of h.c0 rfl
theorem p_r4 (h : PlF f po pi tm sr so qo tl) : pz_gR f po 2 4 = some (po + 2) := gR_of h.c0 rfl
theorem p_r7 (h : PlF f po pi tm sr so qo tl) : pz_gR f po 2 7 = some (po + 3) := gR_of h.c0 rfl
theorem p_r9 (h : PlF f po pi tm sr so qo tl) : pz_gR f po 2 9 = some (po + 4) := gR_of h.c0 rfl
theorem p_t2 (h : PlF f po pi tm sr so qo tl) : pz_gI f (po + 4) 1 2 = some (pi 9) := gI_of h.c4 rfl
theorem p_t0 (h : PlF f po pi tm sr so qo tl) : pz_gR f (po + 4) 1 0 = some (po + 5) := gR_of h.c4 rfl
theorem p_t1 (h : PlF f po pi tm sr so qo tl) : pz_gR f (po + 4) 1 1 = some (po + 6) := gR_of h.c4 rfl
theorem p_tm (h : PlF f po pi tm sr so qo tl) {i : Int32} {k : Nat} (hi : i = nI k) (hk : k < 5) : pz_aI f (po + 1) 0 i = some (tm k) := aI_of (h 1 (by decide)) hi hk (by decide)
theorem p_ys (h : PlF f po pi tm sr so qo tl) {i : Int32} {k : Nat} (hi : i = nI k) (hk : k < 10) : pz_aI f (po + 5) 0 i = some (tl 0 k) := aI_of (h 5 (by decide)) hi hk (by decide)
theorem p_ls (h : PlF f po pi tm sr so qo tl) {i : Int32} {k : Nat} (hi : i = nI k) (hk : k < 10) : pz_aI f (po + 6) 0 i = some (tl 1 k) := aI_of (h 6 (by decide)) hi hk (by decide)
theorem p_sr (h : PlF f po pi tm sr so qo tl) {i : Int32} {k : Nat} (hi : i = nI k) (hk : k < 8) : pz_aR f (po + 2) 3 i = some (po + 7 + sr k) := by
  rw [aR_of (h 2 (by decide)) hi hk (by decide), if_pos hk]
theorem p_qr (h : PlF f po pi tm sr so qo tl) {i : Int32} {k : Nat} (hi : i = nI k) (hk : k < 4) : pz_aR f (po + 3) 4 i = some (po + 15 + k) := by
  rw [aR_of (h 3 (by decide)) hi hk (by decide), if_pos hk]
theorem p_sis (h : PlF f po pi tm sr so qo tl) {j : Nat} (hj : j < 8) : pz_is f (po + 7 + j) 5 = some () := is_of (h.cs hj)
theorem p_s0g (h : PlF f po pi tm sr so qo tl) {j : Nat} (hj : j < 8) : pz_gI f (po + 7 + j) 5 0 = some (so j 0) := gI_of (h.cs hj) rfl
theorem p_s1g (h : PlF f po pi tm sr so qo tl) {j : Nat} (hj : j < 8) : pz_gI f (po + 7 + j) 5 1 = some (so j 1) := gI_of (h.cs hj) rfl
theorem p_s2g (h : PlF f po pi tm sr so qo tl) {j : Nat} (hj : j < 8) : pz_gI f (po + 7 + j) 5 2 = some (so j 2) := gI_of (h.cs hj) rfl
theorem q_is {a : Nat} {q : Nat → Int32} (h : SpF f a q) : pz_is f a 6 = some () := is_of h
theorem q_g0 {a : Nat} {q : Nat → Int32} (h : SpF f a q) : pz_gI f a 6 0 = some (q 0) := gI_of h rfl
theorem q_g1 {a : Nat} {q : Nat → Int32} (h : SpF f a q) : pz_gI f a 6 1 = some (q 1) := gI_of h rfl
theorem q_g2 {a : Nat} {q : Nat → Int32} (h : SpF f a q) : pz_gI f a 6 2 = some (q 2) := gI_of h rfl
theorem q_g3 {a : Nat} {q : Nat → Int32} (h : SpF f a q) : pz_gI f a 6 3 = some (q 3) := gI_of h rfl
theorem q_g4 {a : Nat} {q : Nat → Int32} (h : SpF f a q) : pz_gI f a 6 4 = some (q 4) := gI_of h rfl
theorem q_g5 {a : Nat} {q : Nat → Int32} (h : SpF f a q) : pz_gI f a 6 5 = some (q 5) := gI_of h rfl
theorem q_g6 {a : Nat} {q : Nat → Int32} (h : SpF f a q) : pz_gI f a 6 6 = some (q 6) := gI_of h rfl
theorem q_g7 {a : Nat} {q : Nat → Int32} (h : SpF f a q) : pz_gI f a 6 7 = some (q 7) := gI_of h rfl
theorem q_g8 {a : Nat} {q : Nat → Int32} (h : SpF f a q) : pz_gI f a 6 8 = some (q 8) := gI_of h rfl
theorem p_w0 (h : PlF f po pi tm sr so qo tl) {v : Int32} : pz_sV f po 2 0 (.int v) = some (PB po (va_up pi 0 v) tm sr so qo tl f) := by
  rw [sV_of h.c0 (show 0 < 10 by decide), ← h.pb]; unfold PB; rw [BU_up0 (by decide), BU_BU]
  congr 2; funext o; match o with
  | 0 => rfl
  | 1 => rfl
  | 2 => rfl
  | 3 => rfl
  | 4 => rfl
  | 5 => rfl
  | 6 => rfl
  | n + 7 => rfl
theorem p_w1 (h : PlF f po pi tm sr so qo tl) {v : Int32} : pz_sV f po 2 1 (.int v) = some (PB po (va_up pi 1 v) tm sr so qo tl f) := by
  rw [sV_of h.c0 (show 1 < 10 by decide), ← h.pb]; unfold PB; rw [BU_up0 (by decide), BU_BU]
  congr 2; funext o; match o with
  | 0 => rfl
  | 1 => rfl
  | 2 => rfl
  | 3 => rfl
  | 4 => rfl
  | 5 => rfl
  | 6 => rfl
  | n + 7 => rfl
theorem p_w2 (h : PlF f po pi tm sr so qo tl) {v : Int32} : pz_sV f po 2 2 (.int v) = some (PB po (va_up pi 2 v) tm sr so qo tl f) := by
  rw [sV_of h.c0 (show 2 < 10 by decide), ← h.pb]; unfold PB; rw [BU_up0 (by decide), BU_BU]
  congr 2; funext o; match o with
  | 0 => rfl
  | 1 => rfl
  | 2 => rfl
  | 3 => rfl
  | 4 => rfl
  | 5 => rfl
  | 6 => rfl
  | n + 7 => rfl
theorem p_w5 (h : PlF f po pi tm sr so qo tl) {v : Int32} : pz_sV f po 2 5 (.int v) = some (PB po (va_up pi 5 v) tm sr so qo tl f) := by
  rw [sV_of h.c0 (show 5 < 10 by decide), ← h.pb]; unfold PB; rw [BU_up0 (by decide), BU_BU]
  congr 2; funext o; match o with
  | 0 => rfl
  | 1 => rfl
  | 2 => rfl
  | 3 => rfl
  | 4 => rfl
  | 5 => rfl
  | 6 => rfl
  | n + 7 => rfl
theorem p_w6 (h : PlF f po pi tm sr so qo tl) {v : Int32} : pz_sV f po 2 6 (.int v) = some (PB po (va_up pi 6 v) tm sr so qo tl f) := by
  rw [sV_of h.c0 (show 6 < 10 by decide), ← h.pb]; unfold PB; rw [BU_up0 (by decide), BU_BU]
  congr 2; funext o; match o with
  | 0 => rfl
  | 1 => rfl
  | 2 => rfl
  | 3 => rfl
  | 4 => rfl
  | 5 => rfl
  | 6 => rfl
  | n + 7 => rfl
theorem p_w8 (h : PlF f po pi tm sr so qo tl) {v : Int32} : pz_sV f po 2 8 (.int v) = some (PB po (va_up pi 8 v) tm sr so qo tl f) := by
  rw [sV_of h.c0 (show 8 < 10 by decide), ← h.pb]; unfold PB; rw [BU_up0 (by decide), BU_BU]
  congr 2; funext o; match o with
  | 0 => rfl
  | 1 => rfl
  | 2 => rfl
  | 3 => rfl
  | 4 => rfl
  | 5 => rfl
  | 6 => rfl
  | n + 7 => rfl
theorem p_w9 (h : PlF f po pi tm sr so qo tl) {v : Int32} : pz_sV f (po + 4) 1 2 (.int v) = some (PB po (va_up pi 9 v) tm sr so qo tl f) := by
  rw [sV_of h.c4 (show 2 < 3 by decide), ← h.pb]; unfold PB; rw [BU_up (by decide), BU_BU]
  congr 2; funext o; match o with
  | 0 => rfl
  | 1 => rfl
  | 2 => rfl
  | 3 => rfl
  | 4 => rfl
  | 5 => rfl
  | 6 => rfl
  | n + 7 => rfl
theorem p_wt (h : PlF f po pi tm sr so qo tl) {i v : Int32} {k : Nat} (hi : i = nI k) (hk : k < 5) : pz_tI f (po + 1) 0 i v = some (PB po pi (upd tm k v) sr so qo tl f) := by
  rw [tI_of (h 1 (by decide)) hi hk (by decide), ← h.pb]; unfold PB; rw [BU_up (by decide), BU_BU]
  congr 2; funext o; match o with
  | 0 => rfl
  | 1 => rfl
  | 2 => rfl
  | 3 => rfl
  | 4 => rfl
  | 5 => rfl
  | 6 => rfl
  | n + 7 => rfl
theorem p_wy (h : PlF f po pi tm sr so qo tl) {i v : Int32} {k : Nat} (hi : i = nI k) (hk : k < 10) : pz_tI f (po + 5) 0 i v = some (PB po pi tm sr so qo (va_up tl 0 (upd (tl 0) k v)) f) := by
  rw [tI_of (h 5 (by decide)) hi hk (by decide), ← h.pb]; unfold PB; rw [BU_up (by decide), BU_BU]
  congr 2; funext o; match o with
  | 0 => rfl
  | 1 => rfl
  | 2 => rfl
  | 3 => rfl
  | 4 => rfl
  | 5 => rfl
  | 6 => rfl
  | n + 7 => rfl
theorem p_wl (h : PlF f po pi tm sr so qo tl) {i v : Int32} {k : Nat} (hi : i = nI k) (hk : k < 10) : pz_tI f (po + 6) 0 i v = some (PB po pi tm sr so qo (va_up tl 1 (upd (tl 1) k v)) f) := by
  rw [tI_of (h 6 (by decide)) hi hk (by decide), ← h.pb]; unfold PB; rw [BU_up (by decide), BU_BU]
  congr 2; funext o; match o with
  | 0 => rfl
  | 1 => rfl
  | 2 => rfl
  | 3 => rfl
  | 4 => rfl
  | 5 => rfl
  | 6 => rfl
  | n + 7 => rfl
theorem p_wr (h : PlF f po pi tm sr so qo tl) {i : Int32} {k j : Nat} (hi : i = nI k) (hk : k < 8) (hj : j < 8) : pz_tR f (po + 2) 3 5 i (po + 7 + j) = some (PB po pi tm (va_up sr k j) so qo tl f) := by
  obtain ⟨h1, h2⟩ := inr_of hi hk (show 8 < 2 ^ 31 by decide)
  have hc : f.1 (po + 2) = some (.inr (3, 8, .inr (.inr fun i => if i < 8 then some (po + 7 + sr i) else none))) := h 2 (by decide)
  unfold pz_tR; rw [hc]; dsimp only; rw [if_pos ⟨rfl, h1, p_sis h hj⟩, h2, ← h.pb]; unfold PB; rw [BU_up (by decide), BU_BU]
  congr 2; funext o; match o with
  | 0 => rfl
  | 1 => rfl
  | 2 =>
    show some (Sum.inr (3, 8, Sum.inr (Sum.inr (va_up (fun i => if i < 8 then some (po + 7 + sr i) else none) k (some (po + 7 + j)))))) = some (Sum.inr (3, 8, Sum.inr (Sum.inr fun i => if i < 8 then some (po + 7 + va_up sr k j i) else none)))
    congr 6; funext i
    unfold va_up
    by_cases e : i = k
    · subst e; rw [if_pos rfl, if_pos hk, if_pos rfl]
    · rw [if_neg e, if_neg e]
  | 3 => rfl
  | 4 => rfl
  | 5 => rfl
  | 6 => rfl
  | n + 7 => rfl
theorem p_ws0 (h : PlF f po pi tm sr so qo tl) {j : Nat} {v : Int32} (hj : j < 8) : pz_sV f (po + 7 + j) 5 0 (.int v) = some (PB po pi tm sr (va_up so j (va_up (so j) 0 v)) qo tl f) := by
  rw [sV_of (h.cs hj) (show 0 < 3 by decide), ← h.pb]; unfold PB; rw [show po + 7 + j = po + (j + 7) by omega, BU_up (by omega), BU_BU]
  congr 2; funext o; unfold va_up
  match o with
  | 0 => rw [if_neg (show ¬ 0 = j + 7 by omega)]; rfl
  | 1 => rw [if_neg (show ¬ 1 = j + 7 by omega)]; rfl
  | 2 => rw [if_neg (show ¬ 2 = j + 7 by omega)]; rfl
  | 3 => rw [if_neg (show ¬ 3 = j + 7 by omega)]; rfl
  | 4 => rw [if_neg (show ¬ 4 = j + 7 by omega)]; rfl
  | 5 => rw [if_neg (show ¬ 5 = j + 7 by omega)]; rfl
  | 6 => rw [if_neg (show ¬ 6 = j + 7 by omega)]; rfl
  | n + 7 =>
    by_cases e : n = j
    · subst e
      rw [if_pos rfl]
      show _ = (if n < 8 then some (Sum.inl (5, SF (if n = n then _ else _))) else _)
      rw [if_pos hj, if_pos rfl]; rfl
    · rw [if_neg (show ¬ n + 7 = j + 7 by omega)]
      show (if n < 8 then some (Sum.inl (5, SF (so n))) else some (Sum.inl (6, QF (qo (n - 8))))) = (if n < 8 then some (Sum.inl (5, SF (if n = j then _ else so n))) else some (Sum.inl (6, QF (qo (n - 8)))))
      rw [if_neg e]
theorem p_ws1 (h : PlF f po pi tm sr so qo tl) {j : Nat} {v : Int32} (hj : j < 8) : pz_sV f (po + 7 + j) 5 1 (.int v) = some (PB po pi tm sr (va_up so j (va_up (so j) 1 v)) qo tl f) := by
  rw [sV_of (h.cs hj) (show 1 < 3 by decide), ← h.pb]; unfold PB; rw [show po + 7 + j = po + (j + 7) by omega, BU_up (by omega), BU_BU]
  congr 2; funext o; unfold va_up
  match o with
  | 0 => rw [if_neg (show ¬ 0 = j + 7 by omega)]; rfl
  | 1 => rw [if_neg (show ¬ 1 = j + 7 by omega)]; rfl
  | 2 => rw [if_neg (show ¬ 2 = j + 7 by omega)]; rfl
  | 3 => rw [if_neg (show ¬ 3 = j + 7 by omega)]; rfl
  | 4 => rw [if_neg (show ¬ 4 = j + 7 by omega)]; rfl
  | 5 => rw [if_neg (show ¬ 5 = j + 7 by omega)]; rfl
  | 6 => rw [if_neg (show ¬ 6 = j + 7 by omega)]; rfl
  | n + 7 =>
    by_cases e : n = j
    · subst e
      rw [if_pos rfl]
      show _ = (if n < 8 then some (Sum.inl (5, SF (if n = n then _ else _))) else _)
      rw [if_pos hj, if_pos rfl]; rfl
    · rw [if_neg (show ¬ n + 7 = j + 7 by omega)]
      show (if n < 8 then some (Sum.inl (5, SF (so n))) else some (Sum.inl (6, QF (qo (n - 8))))) = (if n < 8 then some (Sum.inl (5, SF (if n = j then _ else so n))) else some (Sum.inl (6, QF (qo (n - 8)))))
      rw [if_neg e]
theorem p_ws2 (h : PlF f po pi tm sr so qo tl) {j : Nat} {v : Int32} (hj : j < 8) : pz_sV f (po + 7 + j) 5 2 (.int v) = some (PB po pi tm sr (va_up so j (va_up (so j) 2 v)) qo tl f) := by
  rw [sV_of (h.cs hj) (show 2 < 3 by decide), ← h.pb]; unfold PB; rw [show po + 7 + j = po + (j + 7) by omega, BU_up (by omega), BU_BU]
  congr 2; funext o; unfold va_up
  match o with
  | 0 => rw [if_neg (show ¬ 0 = j + 7 by omega)]; rfl
  | 1 => rw [if_neg (show ¬ 1 = j + 7 by omega)]; rfl
  | 2 => rw [if_neg (show ¬ 2 = j + 7 by omega)]; rfl
  | 3 => rw [if_neg (show ¬ 3 = j + 7 by omega)]; rfl
  | 4 => rw [if_neg (show ¬ 4 = j + 7 by omega)]; rfl
  | 5 => rw [if_neg (show ¬ 5 = j + 7 by omega)]; rfl
  | 6 => rw [if_neg (show ¬ 6 = j + 7 by omega)]; rfl
  | n + 7 =>
    by_cases e : n = j
    · subst e
      rw [if_pos rfl]
      show _ = (if n < 8 then some (Sum.inl (5, SF (if n = n then _ else _))) else _)
      rw [if_pos hj, if_pos rfl]; rfl
    · rw [if_neg (show ¬ n + 7 = j + 7 by omega)]
      show (if n < 8 then some (Sum.inl (5, SF (so n))) else some (Sum.inl (6, QF (qo (n - 8))))) = (if n < 8 then some (Sum.inl (5, SF (if n = j then _ else so n))) else some (Sum.inl (6, QF (qo (n - 8)))))
      rw [if_neg e]
theorem p_wq0 (h : PlF f po pi tm sr so qo tl) {j : Nat} {v : Int32} (hj : j < 4) : pz_sV f (po + 15 + j) 6 0 (.int v) = some (PB po pi tm sr so (va_up qo j (va_up (qo j) 0 v)) tl f) := by
  rw [sV_of (h.cq hj) (show 0 < 9 by decide), ← h.pb]; unfold PB; rw [show po + 15 + j = po + (j + 15) by omega, BU_up (by omega), BU_BU]
  congr 2; funext o; unfold va_up
  match o with
  | 0 => rw [if_neg (show ¬ 0 = j + 15 by omega)]; rfl
  | 1 => rw [if_neg (show ¬ 1 = j + 15 by omega)]; rfl
  | 2 => rw [if_neg (show ¬ 2 = j + 15 by omega)]; rfl
  | 3 => rw [if_neg (show ¬ 3 = j + 15 by omega)]; rfl
  | 4 => rw [if_neg (show ¬ 4 = j + 15 by omega)]; rfl
  | 5 => rw [if_neg (show ¬ 5 = j + 15 by omega)]; rfl
  | 6 => rw [if_neg (show ¬ 6 = j + 15 by omega)]; rfl
  | n + 7 =>
    by_cases e : n = j + 8
    · subst e
      rw [if_pos rfl, show j + 8 + 7 = j + 15 from rfl, PC_q]; simp only [↓reduceIte]; rfl
    · rw [if_neg (show ¬ n + 7 = j + 15 by omega)]
      show (if n < 8 then some (Sum.inl (5, SF (so n))) else some (Sum.inl (6, QF (qo (n - 8))))) = (if n < 8 then some (Sum.inl (5, SF (so n))) else some (Sum.inl (6, QF (if n - 8 = j then _ else qo (n - 8)))))
      by_cases e2 : n < 8
      · rw [if_pos e2, if_pos e2]
      · rw [if_neg e2, if_neg e2, if_neg (by omega)]
theorem p_wq1 (h : PlF f po pi tm sr so qo tl) {j : Nat} {v : Int32} (hj : j < 4) : pz_sV f (po + 15 + j) 6 1 (.int v) = some (PB po pi tm sr so (va_up qo j (va_up (qo j) 1 v)) tl f) := by
  rw [sV_of (h.cq hj) (show 1 < 9 by decide), ← h.pb]; unfold PB; rw [show po + 15 + j = po + (j + 15) by omega, BU_up (by omega), BU_BU]
  congr 2; funext o; unfold va_up
  match o with
  | 0 => rw [if_neg (show ¬ 0 = j + 15 by omega)]; rfl
  | 1 => rw [if_neg (show ¬ 1 = j + 15 by omega)]; rfl
  | 2 => rw [if_neg (show ¬ 2 = j + 15 by omega)]; rfl
  | 3 => rw [if_neg (show ¬ 3 = j + 15 by omega)]; rfl
  | 4 => rw [if_neg (show ¬ 4 = j + 15 by omega)]; rfl
  | 5 => rw [if_neg (show ¬ 5 = j + 15 by omega)]; rfl
  | 6 => rw [if_neg (show ¬ 6 = j + 15 by omega)]; rfl
  | n + 7 =>
    by_cases e : n = j + 8
    · subst e
      rw [if_pos rfl, show j + 8 + 7 = j + 15 from rfl, PC_q]; simp only [↓reduceIte]; rfl
    · rw [if_neg (show ¬ n + 7 = j + 15 by omega)]
      show (if n < 8 then some (Sum.inl (5, SF (so n))) else some (Sum.inl (6, QF (qo (n - 8))))) = (if n < 8 then some (Sum.inl (5, SF (so n))) else some (Sum.inl (6, QF (if n - 8 = j then _ else qo (n - 8)))))
      by_cases e2 : n < 8
      · rw [if_pos e2, if_pos e2]
      · rw [if_neg e2, if_neg e2, if_neg (by omega)]
theorem p_wq2 (h : PlF f po pi tm sr so qo tl) {j : Nat} {v : Int32} (hj : j < 4) : pz_sV f (po + 15 + j) 6 2 (.int v) = some (PB po pi tm sr so (va_up qo j (va_up (qo j) 2 v)) tl f) := by
  rw [sV_of (h.cq hj) (show 2 < 9 by decide), ← h.pb]; unfold PB; rw [show po + 15 + j = po + (j + 15) by omega, BU_up (by omega), BU_BU]
  congr 2; funext o; unfold va_up
  match o with
  | 0 => rw [if_neg (show ¬ 0 = j + 15 by omega)]; rfl
  | 1 => rw [if_neg (show ¬ 1 = j + 15 by omega)]; rfl
  | 2 => rw [if_neg (show ¬ 2 = j + 15 by omega)]; rfl
  | 3 => rw [if_neg (show ¬ 3 = j + 15 by omega)]; rfl
  | 4 => rw [if_neg (show ¬ 4 = j + 15 by omega)]; rfl
  | 5 => rw [if_neg (show ¬ 5 = j + 15 by omega)]; rfl
  | 6 => rw [if_neg (show ¬ 6 = j + 15 by omega)]; rfl
  | n + 7 =>
    by_cases e : n = j + 8
    · subst e
      rw [if_pos rfl, show j + 8 + 7 = j + 15 from rfl, PC_q]; simp only [↓reduceIte]; rfl
    · rw [if_neg (show ¬ n + 7 = j + 15 by omega)]
      show (if n < 8 then some (Sum.inl (5, SF (so n))) else some (Sum.inl (6, QF (qo (n - 8))))) = (if n < 8 then some (Sum.inl (5, SF (so n))) else some (Sum.inl (6, QF (if n - 8 = j then _ else qo (n - 8)))))
      by_cases e2 : n < 8
      · rw [if_pos e2, if_pos e2]
      · rw [if_neg e2, if_neg e2, if_neg (by omega)]
theorem p_wq3 (h : PlF f po pi tm sr so qo tl) {j : Nat} {v : Int32} (hj : j < 4) : pz_sV f (po + 15 + j) 6 3 (.int v) = some (PB po pi tm sr so (va_up qo j (va_up (qo j) 3 v)) tl f) := by
  rw [sV_of (h.cq hj) (show 3 < 9 by decide), ← h.pb]; unfold PB; rw [show po + 15 + j = po + (j + 15) by omega, BU_up (by omega), BU_BU]
  congr 2; funext o; unfold va_up
  match o with
  | 0 => rw [if_neg (show ¬ 0 = j + 15 by omega)]; rfl
  | 1 => rw [if_neg (show ¬ 1 = j + 15 by omega)]; rfl
  | 2 => rw [if_neg (show ¬ 2 = j + 15 by omega)]; rfl
  | 3 => rw [if_neg (show ¬ 3 = j + 15 by omega)]; rfl
  | 4 => rw [if_neg (show ¬ 4 = j + 15 by omega)]; rfl
  | 5 => rw [if_neg (show ¬ 5 = j + 15 by omega)]; rfl
  | 6 => rw [if_neg (show ¬ 6 = j + 15 by omega)]; rfl
  | n + 7 =>
    by_cases e : n = j + 8
    · subst e
      rw [if_pos rfl, show j + 8 + 7 = j + 15 from rfl, PC_q]; simp only [↓reduceIte]; rfl
    · rw [if_neg (show ¬ n + 7 = j + 15 by omega)]
      show (if n < 8 then some (Sum.inl (5, SF (so n))) else some (Sum.inl (6, QF (qo (n - 8))))) = (if n < 8 then some (Sum.inl (5, SF (so n))) else some (Sum.inl (6, QF (if n - 8 = j then _ else qo (n - 8)))))
      by_cases e2 : n < 8
      · rw [if_pos e2, if_pos e2]
      · rw [if_neg e2, if_neg e2, if_neg (by omega)]
theorem p_wq4 (h : PlF f po pi tm sr so qo tl) {j : Nat} {v : Int32} (hj : j < 4) : pz_sV f (po + 15 + j) 6 4 (.int v) = some (PB po pi tm sr so (va_up qo j (va_up (qo j) 4 v)) tl f) := by
  rw [sV_of (h.cq hj) (show 4 < 9 by decide), ← h.pb]; unfold PB; rw [show po + 15 + j = po + (j + 15) by omega, BU_up (by omega), BU_BU]
  congr 2; funext o; unfold va_up
  match o with
  | 0 => rw [if_neg (show ¬ 0 = j + 15 by omega)]; rfl
  | 1 => rw [if_neg (show ¬ 1 = j + 15 by omega)]; rfl
  | 2 => rw [if_neg (show ¬ 2 = j + 15 by omega)]; rfl
  | 3 => rw [if_neg (show ¬ 3 = j + 15 by omega)]; rfl
  | 4 => rw [if_neg (show ¬ 4 = j + 15 by omega)]; rfl
  | 5 => rw [if_neg (show ¬ 5 = j + 15 by omega)]; rfl
  | 6 => rw [if_neg (show ¬ 6 = j + 15 by omega)]; rfl
  | n + 7 =>
    by_cases e : n = j + 8
    · subst e
      rw [if_pos rfl, show j + 8 + 7 = j + 15 from rfl, PC_q]; simp only [↓reduceIte]; rfl
    · rw [if_neg (show ¬ n + 7 = j + 15 by omega)]
      show (if n < 8 then some (Sum.inl (5, SF (so n))) else some (Sum.inl (6, QF (qo (n - 8))))) = (if n < 8 then some (Sum.inl (5, SF (so n))) else some (Sum.inl (6, QF (if n - 8 = j then _ else qo (n - 8)))))
      by_cases e2 : n < 8
      · rw [if_pos e2, if_pos e2]
      · rw [if_neg e2, if_neg e2, if_neg (by omega)]
theorem p_wq5 (h : PlF f po pi tm sr so qo tl) {j : Nat} {v : Int32} (hj : j < 4) : pz_sV f (po + 15 + j) 6 5 (.int v) = some (PB po pi tm sr so (va_up qo j (va_up (qo j) 5 v)) tl f) := by
  rw [sV_of (h.cq hj) (show 5 < 9 by decide), ← h.pb]; unfold PB; rw [show po + 15 + j = po + (j + 15) by omega, BU_up (by omega), BU_BU]
  congr 2; funext o; unfold va_up
  match o with
  | 0 => rw [if_neg (show ¬ 0 = j + 15 by omega)]; rfl
  | 1 => rw [if_neg (show ¬ 1 = j + 15 by omega)]; rfl
  | 2 => rw [if_neg (show ¬ 2 = j + 15 by omega)]; rfl
  | 3 => rw [if_neg (show ¬ 3 = j + 15 by omega)]; rfl
  | 4 => rw [if_neg (show ¬ 4 = j + 15 by omega)]; rfl
  | 5 => rw [if_neg (show ¬ 5 = j + 15 by omega)]; rfl
  | 6 => rw [if_neg (show ¬ 6 = j + 15 by omega)]; rfl
  | n + 7 =>
    by_cases e : n = j + 8
    · subst e
      rw [if_pos rfl, show j + 8 + 7 = j + 15 from rfl, PC_q]; simp only [↓reduceIte]; rfl
    · rw [if_neg (show ¬ n + 7 = j + 15 by omega)]
      show (if n < 8 then some (Sum.inl (5, SF (so n))) else some (Sum.inl (6, QF (qo (n - 8))))) = (if n < 8 then some (Sum.inl (5, SF (so n))) else some (Sum.inl (6, QF (if n - 8 = j then _ else qo (n - 8)))))
      by_cases e2 : n < 8
      · rw [if_pos e2, if_pos e2]
      · rw [if_neg e2, if_neg e2, if_neg (by omega)]
theorem p_wq6 (h : PlF f po pi tm sr so qo tl) {j : Nat} {v : Int32} (hj : j < 4) : pz_sV f (po + 15 + j) 6 6 (.int v) = some (PB po pi tm sr so (va_up qo j (va_up (qo j) 6 v)) tl f) := by
  rw [sV_of (h.cq hj) (show 6 < 9 by decide), ← h.pb]; unfold PB; rw [show po + 15 + j = po + (j + 15) by omega, BU_up (by omega), BU_BU]
  congr 2; funext o; unfold va_up
  match o with
  | 0 => rw [if_neg (show ¬ 0 = j + 15 by omega)]; rfl
  | 1 => rw [if_neg (show ¬ 1 = j + 15 by omega)]; rfl
  | 2 => rw [if_neg (show ¬ 2 = j + 15 by omega)]; rfl
  | 3 => rw [if_neg (show ¬ 3 = j + 15 by omega)]; rfl
  | 4 => rw [if_neg (show ¬ 4 = j + 15 by omega)]; rfl
  | 5 => rw [if_neg (show ¬ 5 = j + 15 by omega)]; rfl
  | 6 => rw [if_neg (show ¬ 6 = j + 15 by omega)]; rfl
  | n + 7 =>
    by_cases e : n = j + 8
    · subst e
      rw [if_pos rfl, show j + 8 + 7 = j + 15 from rfl, PC_q]; simp only [↓reduceIte]; rfl
    · rw [if_neg (show ¬ n + 7 = j + 15 by omega)]
      show (if n < 8 then some (Sum.inl (5, SF (so n))) else some (Sum.inl (6, QF (qo (n - 8))))) = (if n < 8 then some (Sum.inl (5, SF (so n))) else some (Sum.inl (6, QF (if n - 8 = j then _ else qo (n - 8)))))
      by_cases e2 : n < 8
      · rw [if_pos e2, if_pos e2]
      · rw [if_neg e2, if_neg e2, if_neg (by omega)]
theorem p_wq7 (h : PlF f po pi tm sr so qo tl) {j : Nat} {v : Int32} (hj : j < 4) : pz_sV f (po + 15 + j) 6 7 (.int v) = some (PB po pi tm sr so (va_up qo j (va_up (qo j) 7 v)) tl f) := by
  rw [sV_of (h.cq hj) (show 7 < 9 by decide), ← h.pb]; unfold PB; rw [show po + 15 + j = po + (j + 15) by omega, BU_up (by omega), BU_BU]
  congr 2; funext o; unfold va_up
  match o with
  | 0 => rw [if_neg (show ¬ 0 = j + 15 by omega)]; rfl
  | 1 => rw [if_neg (show ¬ 1 = j + 15 by omega)]; rfl
  | 2 => rw [if_neg (show ¬ 2 = j + 15 by omega)]; rfl
  | 3 => rw [if_neg (show ¬ 3 = j + 15 by omega)]; rfl
  | 4 => rw [if_neg (show ¬ 4 = j + 15 by omega)]; rfl
  | 5 => rw [if_neg (show ¬ 5 = j + 15 by omega)]; rfl
  | 6 => rw [if_neg (show ¬ 6 = j + 15 by omega)]; rfl
  | n + 7 =>
    by_cases e : n = j + 8
    · subst e
      rw [if_pos rfl, show j + 8 + 7 = j + 15 from rfl, PC_q]; simp only [↓reduceIte]; rfl
    · rw [if_neg (show ¬ n + 7 = j + 15 by omega)]
      show (if n < 8 then some (Sum.inl (5, SF (so n))) else some (Sum.inl (6, QF (qo (n - 8))))) = (if n < 8 then some (Sum.inl (5, SF (so n))) else some (Sum.inl (6, QF (if n - 8 = j then _ else qo (n - 8)))))
      by_cases e2 : n < 8
      · rw [if_pos e2, if_pos e2]
      · rw [if_neg e2, if_neg e2, if_neg (by omega)]
theorem p_wq8 (h : PlF f po pi tm sr so qo tl) {j : Nat} {v : Int32} (hj : j < 4) : pz_sV f (po + 15 + j) 6 8 (.int v) = some (PB po pi tm sr so (va_up qo j (va_up (qo j) 8 v)) tl f) := by
  rw [sV_of (h.cq hj) (show 8 < 9 by decide), ← h.pb]; unfold PB; rw [show po + 15 + j = po + (j + 15) by omega, BU_up (by omega), BU_BU]
  congr 2; funext o; unfold va_up
  match o with
  | 0 => rw [if_neg (show ¬ 0 = j + 15 by omega)]; rfl
  | 1 => rw [if_neg (show ¬ 1 = j + 15 by omega)]; rfl
  | 2 => rw [if_neg (show ¬ 2 = j + 15 by omega)]; rfl
  | 3 => rw [if_neg (show ¬ 3 = j + 15 by omega)]; rfl
  | 4 => rw [if_neg (show ¬ 4 = j + 15 by omega)]; rfl
  | 5 => rw [if_neg (show ¬ 5 = j + 15 by omega)]; rfl
  | 6 => rw [if_neg (show ¬ 6 = j + 15 by omega)]; rfl
  | n + 7 =>
    by_cases e : n = j + 8
    · subst e
      rw [if_pos rfl, show j + 8 + 7 = j + 15 from rfl, PC_q]; simp only [↓reduceIte]; rfl
    · rw [if_neg (show ¬ n + 7 = j + 15 by omega)]
      show (if n < 8 then some (Sum.inl (5, SF (so n))) else some (Sum.inl (6, QF (qo (n - 8))))) = (if n < 8 then some (Sum.inl (5, SF (so n))) else some (Sum.inl (6, QF (if n - 8 = j then _ else qo (n - 8)))))
      by_cases e2 : n < 8
      · rw [if_pos e2, if_pos e2]
      · rw [if_neg e2, if_neg e2, if_neg (by omega)]
end PBS
