/-! ===== what is static: rows of numbers, verbs, words ===== -/
def tmB : Nat → Int32 := fun i => match i with
  | 0 => 200
  | 1 => 780
  | 2 => 3
  | 3 => 20
  | 4 => 30
  | _ => 0
def slL : Nat → Int32 := fun i => match i with
  | 6 => 1
  | _ => 0
def slM : Nat → Int32 := fun i => match i with
  | 1 => 3
  | 2 => 1
  | 3 => 1799
  | 4 => 1000000
  | 5 => 1000
  | 6 => 119
  | 7 => 100000
  | 8 => 400
  | 9 => 1200
  | 10 => 10
  | 11 => 30
  | 12 => 200
  | _ => 0
def swM : Nat → Int32 := fun i => match i with
  | 0 => 3
  | 1 => 1
  | 2 => 2
  | 3 => 4
  | 4 => 5
  | 5 => 6
  | 6 => 7
  | 7 => 8
  | 8 => 9
  | _ => 0
/-- a verb's slots, a verb's word -/
def vbS : Nat → Nat → Int32 := fun k i => match k, i with
  | 0, 0 => 3
  | 1, 0 => 3
  | 1, 1 => 3
  | 1, 2 => 4
  | 2, 0 => 3
  | 2, 1 => 3
  | 3, 0 => 3
  | 3, 1 => 5
  | 3, 2 => 2
  | 3, 3 => 5
  | 4, 0 => 6
  | 4, 1 => 7
  | 5, 0 => 1
  | 5, 1 => 3
  | 6, 0 => 1
  | 6, 1 => 3
  | 7, 0 => 3
  | 8, 0 => 3
  | 9, 0 => 8
  | 10, 0 => 9
  | 11, 0 => 10
  | 12, 0 => 11
  | 13, 0 => 12
  | _, _ => 0
def vbW : Nat → List Nat := fun k => match k with
  | 0 => [98, 111, 114, 110]
  | 1 => [115, 101, 114, 118, 101]
  | 2 => [119, 101, 100]
  | 3 => [112, 97, 114, 116]
  | 4 => [108, 105, 118, 101, 115]
  | 5 => [99, 108, 97, 105, 109]
  | 6 => [108, 111, 115, 116]
  | 7 => [100, 105, 101, 115]
  | 8 => [114, 101, 116, 105, 114, 101]
  | 9 => [112, 101, 114]
  | 10 => [110, 111, 114, 109, 97, 108]
  | 11 => [101, 97, 114, 108, 121]
  | 12 => [99, 111, 108, 97]
  | 13 => [105, 110, 116, 101, 114, 101, 115, 116]
  | _ => []
def wdSh : List Nat := [115, 104, 97, 114, 101, 100]
def wdAp : List Nat := [97, 112, 97, 114, 116]
/-- a row of ints; a text -/
def rowK (c : Nat → Option pz_E) (a t n : Nat) (g : Nat → Int32) : Prop := ∃ g', c a = some (.inr (t, n, .inl g')) ∧ ∀ j, j < n → g' j = g j
def txtK (c : Nat → Option pz_E) (a : Nat) (l : List Nat) : Prop := ∃ b, c a = some (.inl (101, [.ref b, .int 0])) ∧ rowK c b 12 l.length (fun j => nI (l.getD j 0))
def vbK (c : Nat → Option pz_E) (a k : Nat) : Prop := ∃ s, c a = some (.inl (100, [.ref s, .int (vbS k 0), .int (vbS k 1), .int (vbS k 2), .int (vbS k 3), .int (nI k)])) ∧ txtK c s (vbW k)
def StaK (c : Nat → Option pz_E) (sa : Nat → Nat) : Prop := rowK c (sa 0) 10 5 tmB ∧ rowK c (sa 1) 10 13 slL ∧ rowK c (sa 2) 10 13 slM ∧ rowK c (sa 3) 10 14 swM ∧ (∃ va, c (sa 4) = some (.inr (11, 14, .inr (.inr va))) ∧ ∀ k, k < 14 → ∃ v, va k = some v ∧ vbK c v k) ∧ txtK c (sa 5) wdSh ∧ txtK c (sa 6) wdAp
/-- below z lies what is static -/
def StaF (z : Nat) (f : pz_H) : Prop := StaK (fun a => if a < z then f.1 a else none) f.2.1
theorem sta_lt {z a : Nat} {f : pz_H} {e : pz_E} (h : (fun a => if a < z then f.1 a else none) a = some e) : f.1 a = some e ∧ a < z := by
  have h' : (if a < z then f.1 a else none) = some e := h
  by_cases c : a < z
  · rw [if_pos c] at h'; exact ⟨h', c⟩
  · rw [if_neg c] at h'; cases h'
theorem StaF.bu {z b n : Nat} {c : Nat → Option pz_E} {f : pz_H} (h : StaF z f) (hb : z ≤ b) : StaF z (BU b n c f) := by
  unfold StaF at h ⊢
  have : (fun a => if a < z then (BU b n c f).1 a else none) = fun a => if a < z then f.1 a else none := by
    funext a
    by_cases q : a < z
    · rw [if_pos q, if_pos q, BU_ne (by omega)]
    · rw [if_neg q, if_neg q]
  rw [this]; exact h
theorem rwK_of {z a t n : Nat} {g : Nat → Int32} {f : pz_H} (h : rowK (fun a => if a < z then f.1 a else none) a t n g) (hn : n < 2 ^ 31) : (∀ (i : Int32) (k : Nat), i = nI k → k < n → pz_aI f a t i = some (g k)) ∧ pz_ln f a t = some (nI n) ∧ a < z := by
  obtain ⟨g', h1, h2⟩ := h
  obtain ⟨h3, h4⟩ := sta_lt h1
  refine ⟨fun i k hi hk => by rw [aI_of h3 hi hk hn, h2 k hk], ?_, h4⟩
  unfold pz_ln; rw [h3]; dsimp only; rw [if_pos rfl]; rfl
section CS
variable {po p1 z : Nat} {w pi tm pi1 tm1 : Nat → Int32} {sr sr1 : Nat → Nat} {so qo tl so1 qo1 tl1 : Nat → Nat → Int32} {f : pz_H}
theorem StaF.pb (h : StaF z f) (hb : z ≤ po) : StaF z (PB po pi tm sr so qo tl f) := h.bu hb
theorem c_anew_loop (hs : StaF z f) (hz : z ≤ po) : ∀ (N i : Nat) (tm : Nat → Int32), i ≤ 5 → 5 - i < N → (∀ j, j < i → tm j = tmB j) → ∃ tm', fX3_beginAnew_17 N (PB po pi tm sr so qo tl f) po (nI i) = some (PB po (va_up (va_up (va_up (va_up pi 5 0) 6 0) 8 0) 9 0) tm' sr so qo tl f) ∧ ∀ j, j < 5 → tm' j = tmB j := by
  intro N
  induction N with
  | zero => intro i _ _ hh; omega
  | succ N ih =>
    intro i tm hi hN hj
    show ∃ tm', fX3_beginAnew_17b _ _ _ _ = _ ∧ _
    unfold fX3_beginAnew_17b
    by_cases c : i = 5
    · subst c
      rw [if_pos (by decide), p_w5 PB_plf, bs, PB_PB, p_w6 PB_plf, bs, PB_PB, p_w8 PB_plf, bs, PB_PB, p_r9 PB_plf, bs, p_w9 PB_plf, bs, PB_PB]
      exact ⟨tm, rfl, hj⟩
    · have hr := (rwK_of (hs.pb hz (pi := pi) (tm := tm) (sr := sr) (so := so) (qo := qo) (tl := tl)).1 (by decide)).1 (nI i) i rfl (by omega)
      rw [if_neg (by rw [show (5 : Int32) = nI 5 from rfl, nI_leI (by decide) (by omega)]; omega), p_r3 PB_plf, bs, hr, bs, p_wt PB_plf rfl (by omega), bs, PB_PB, nI_1]
      refine ih (i + 1) _ (by omega) (by omega) (fun j hj' => ?_)
      by_cases e : j = i
      · subst e; rw [upd_s]
      · rw [upd_n e]; exact hj j (by omega)
theorem c_anew (h : PlF f po pi tm sr so qo tl) (hs : StaF z f) (hz : z ≤ po) (s8 : ∀ i, i < 8 → sr i < 8) (inj : ∀ i j, i < 8 → j < 8 → sr i = sr j → i = j) (b : Int32) (w : Nat → Int32) : ∃ pi' tm', fnX3_beginAnew f po b = some (PB po pi' tm' sr so qo tl f) ∧ PlnR (bgX b w) pi' tm' sr so qo tl := by
  unfold fnX3_beginAnew
  rw [p_is h, bs, p_w0 h, bs, p_w1 PB_plf, bs, PB_PB, p_w2 PB_plf, bs, PB_PB]
  obtain ⟨tm', e1, e2⟩ := c_anew_loop (pi := va_up (va_up (va_up pi 0 b) 1 (-1)) 2 (-1)) (sr := sr) (so := so) (qo := qo) (tl := tl) hs hz pz_F 0 tm (by omega) (by unfold pz_F; omega) (fun j hj => by omega)
  have c0 : cS (bgX b w) = 0 := rfl
  have cp : cP (bgX b w) = 0 := rfl
  have cy : cY (bgX b w) = 0 := rfl
  refine ⟨_, tm', e1, ⟨⟨rfl, rfl, rfl, rfl, ?_, rfl, rfl⟩, ?_, s8, ?_⟩, ?_, ⟨?_, ?_, ?_⟩, inj⟩
  · unfold svc; rw [c0]; rfl
  · intro i hi
    rw [e2 i hi]
    match i, hi with
    | 0, _ => rfl
    | 1, _ => rfl
    | 2, _ => rfl
    | 3, _ => rfl
    | 4, _ => rfl
  · intro k hk; rw [c0] at hk; omega
  · intro k hk; rw [cp] at hk; omega
  · intro k hk; rw [cy] at hk; omega
  · intro k hk; rw [cy] at hk; omega
  · intro k hk; rw [cy] at hk; omega
end CS
