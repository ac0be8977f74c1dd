/-! ===== the class's table of lives: a year is told ===== -/
theorem lfC_1 {yr rv y v : Int32} (h1 : yr.toInt < y.toInt → v.toInt ≤ rv.toInt) (h2 : y.toInt < yr.toInt → rv.toInt ≤ v.toInt) : lfC yr rv y v = 1 := by
  unfold lfC
  by_cases c1 : y ≤ yr
  · rw [if_pos c1]
    rw [i32_le] at c1
    by_cases c2 : yr ≤ y
    · rw [if_pos c2]
    · rw [if_neg c2]; rw [i32_le] at c2
      rw [if_neg (by rw [i32_lt]; omega)]
  · rw [if_neg c1]
    rw [i32_le] at c1
    rw [if_neg (by rw [i32_lt]; omega), if_pos (by rw [i32_le]; omega)]
theorem lfS_1 {w : Nat → Int32} {y v : Int32} : ∀ k, (∀ i, i < k → lfC (w (67 + 2 * i)) (w (68 + 2 * i)) y v = 1) → (lfS w y v k).2 = 1
  | 0, _ => rfl
  | k + 1, h => by
    show (if (lfS w y v k).2 = 0 then (0 : Int32) else lfC (w (67 + 2 * k)) (w (68 + 2 * k)) y v) = 1
    rw [lfS_1 k (fun i hi => h i (by omega)), if_neg one_0, h k (by omega)]
/-- whether a year may be told -/
def tyK (w : Nat → Int32) (y v : Int32) : Int32 := if (lfS w y v (cY w)).2 = 0 then 0 else if (lfS w y v (cY w)).1 = 10 then 0 else 1
theorem livW_at {w : Nat → Int32} {s : Nat} {y v : Int32} : (∀ j, j ≠ 5 → j ≠ 67 + 2 * s → j ≠ 68 + 2 * s → livW w s y v j = w j) ∧ livW w s y v (67 + 2 * s) = y ∧ livW w s y v (68 + 2 * s) = v ∧ livW w s y v 5 = w 5 + if s = cY w then 1 else 0 := by
  unfold livW
  refine ⟨fun j a b c => by rw [upd_n c, upd_n b, upd_n a], by rw [upd_n (by omega), upd_s], by rw [upd_s], by rw [upd_n (by omega), upd_n (by omega), upd_s]⟩
/-- a year that is there is told anew -/
theorem YrR_anew {w ys ls : Nat → Int32} (hv : Vld w) (h : YrR w ys ls) {y v : Int32} {s p : Nat} (hs : s < cY w) (hsy : w (67 + 2 * s) = y) (hp : p < cY w) (hpy : ys p = y) : YrR (livW w s y v) (upd ys p y) (upd ls p v) := by
  obtain ⟨g, g1, g2, g5⟩ := livW_at (w := w) (s := s) (y := y) (v := v)
  have h10 := hv.1.2.2.2
  generalize livW w s y v = w' at *
  have eY : cY w' = cY w := by unfold cY; rw [g5, if_neg (by omega), Int32.add_zero]
  obtain ⟨-, -, -, -, -, -, -, -, -, -, -, -, -, yb, yd, yf⟩ := id hv
  have ey : upd ys p y = ys := by rw [← hpy]; exact upd_id
  unfold YrR
  rw [eY, ey]
  obtain ⟨y1, y2, y3⟩ := id h
  refine ⟨y1, fun i hi => ?_, fun j hj => ?_⟩
  · by_cases e : i = p
    · subst e; exact ⟨s, hs, by rw [hpy, g1], by rw [upd_s, g2]⟩
    · obtain ⟨j, j1, j2, j3⟩ := y2 i hi
      have hne : j ≠ s := by
        intro q; subst q
        rw [hsy, ← hpy] at j2
        rcases Nat.lt_or_gt_of_ne e with q | q
        · have := ys_lt' h q hp; rw [j2] at this; omega
        · have := ys_lt' h q hi; rw [j2] at this; omega
      exact ⟨j, j1, by rw [g _ (by omega) (by omega) (by omega)]; exact j2, by rw [upd_n e, g _ (by omega) (by omega) (by omega)]; exact j3⟩
  · by_cases e : j = s
    · subst e; exact ⟨p, hp, by rw [hpy, g1], by rw [upd_s, g2]⟩
    · obtain ⟨i, i1, i2, i3⟩ := y3 j hj
      have hne : i ≠ p := by
        intro q; subst q
        apply e; apply yd j s hj hs
        rw [hsy, ← hpy, i2]
      exact ⟨i, i1, by rw [g _ (by omega) (by omega) (by omega)]; exact i2, by rw [upd_n hne, g _ (by omega) (by omega) (by omega)]; exact i3⟩
/-- a year is told that isn't there -/
theorem YrR_new {w ys ls ys' ls' : Nat → Int32} (hv : Vld w) (h : YrR w ys ls) {y v : Int32} {p : Nat} (h9 : cY w < 10) (hp : p ≤ cY w) (hlo : ∀ i, i < p → (ys i).toInt < y.toInt) (hhi : ∀ i, p ≤ i → i < cY w → y.toInt < (ys i).toInt) (a1 : ∀ i, i < p → ys' i = ys i ∧ ls' i = ls i) (a2 : ys' p = y ∧ ls' p = v) (a3 : ∀ i, p ≤ i → i < cY w → ys' (i + 1) = ys i ∧ ls' (i + 1) = ls i) : YrR (livW w (cY w) y v) ys' ls' := by
  obtain ⟨g, g1, g2, g5⟩ := livW_at (w := w) (s := cY w) (y := y) (v := v)
  have hcu := cnt_up hv.1.2.2.1 (by omega)
  generalize livW w (cY w) y v = w' at *
  have eY : cY w' = cY w + 1 := by unfold cY; rw [g5, if_pos rfl]; exact hcu.2
  obtain ⟨y1, y2, y3⟩ := id h
  unfold YrR
  rw [eY]
  refine ⟨fun i hi => ?_, fun i hi => ?_, fun j hj => ?_⟩
  · by_cases c1 : i + 1 < p
    · rw [(a1 i (by omega)).1, (a1 (i + 1) c1).1]; exact y1 i (by omega)
    by_cases c2 : i + 1 = p
    · rw [c2, a2.1, (a1 i (by omega)).1]; exact hlo i (by omega)
    by_cases c3 : i = p
    · subst c3; rw [a2.1, (a3 i (by omega) (by omega)).1]; exact hhi i (by omega) (by omega)
    · have e1 := (a3 (i - 1) (by omega) (by omega)).1
      have e2 := (a3 i (by omega) (by omega)).1
      rw [show i - 1 + 1 = i by omega] at e1
      rw [e1, e2]
      have := y1 (i - 1) (by omega)
      rw [show i - 1 + 1 = i by omega] at this; exact this
  · by_cases c1 : i < p
    · obtain ⟨j, j1, j2, j3⟩ := y2 i (by omega)
      exact ⟨j, by omega, by rw [(a1 i c1).1, g _ (by omega) (by omega) (by omega)]; exact j2, by rw [(a1 i c1).2, g _ (by omega) (by omega) (by omega)]; exact j3⟩
    by_cases c2 : i = p
    · subst c2; exact ⟨cY w, by omega, by rw [a2.1, g1], by rw [a2.2, g2]⟩
    · obtain ⟨j, j1, j2, j3⟩ := y2 (i - 1) (by omega)
      have e1 := a3 (i - 1) (by omega) (by omega)
      rw [show i - 1 + 1 = i by omega] at e1
      exact ⟨j, by omega, by rw [e1.1, g _ (by omega) (by omega) (by omega)]; exact j2, by rw [e1.2, g _ (by omega) (by omega) (by omega)]; exact j3⟩
  · by_cases c : j = cY w
    · subst c; exact ⟨p, by omega, by rw [a2.1, g1], by rw [a2.2, g2]⟩
    · obtain ⟨i, i1, i2, i3⟩ := y3 j (by omega)
      by_cases c1 : i < p
      · exact ⟨i, by omega, by rw [(a1 i c1).1, g _ (by omega) (by omega) (by omega)]; exact i2, by rw [(a1 i c1).2, g _ (by omega) (by omega) (by omega)]; exact i3⟩
      · exact ⟨i + 1, by omega, by rw [(a3 i (by omega) i1).1, g _ (by omega) (by omega) (by omega)]; exact i2, by rw [(a3 i (by omega) i1).2, g _ (by omega) (by omega) (by omega)]; exact i3⟩
/-- behind a year that is told -/
theorem PlnR_liv {w pi tm : Nat → Int32} {sr : Nat → Nat} {so qo tl tl' : Nat → Nat → Int32} (hr : PlnR w pi tm sr so qo tl) (hv : Vld w) {s : Nat} {y v : Int32} (hs : s ≤ cY w) {x : Int32} (hx : x = w 5 + if s = cY w then 1 else 0) (hy : YrR (livW w s y v) (tl' 0) (tl' 1)) : PlnR (livW w s y v) (va_up pi 9 x) tm sr so qo tl' := by
  obtain ⟨g, g1, g2, g5⟩ := livW_at (w := w) (s := s) (y := y) (v := v)
  obtain ⟨⟨⟨c0, c1, c2, c3, c4, c5, c6⟩, tmr, s8, sp⟩, hQ, -, inj⟩ := hr
  have h8 := hv.1.1.2
  have h4 := hv.1.2.1.2
  generalize livW w s y v = w' at *
  have eS : cS w' = cS w := by unfold cS; rw [g 3 (by omega) (by omega) (by omega)]
  have eP : cP w' = cP w := by unfold cP; rw [g 4 (by omega) (by omega) (by omega)]
  have esv : ∀ a b, svc w' a b = svc w a b := fun a b => svc_cg2 hv.c (g 3 (by omega) (by omega) (by omega)) (fun j x y => g j (by omega) (by omega) (by omega))
  refine ⟨⟨⟨?_, ?_, ?_, ?_, ?_, ?_, ?_⟩, ?_, s8, ?_⟩, ?_, hy, inj⟩
  · rw [up_n (by decide), g 0 (by omega) (by omega) (by omega)]; exact c0
  · rw [up_n (by decide), g 1 (by omega) (by omega) (by omega)]; exact c1
  · rw [up_n (by decide), g 2 (by omega) (by omega) (by omega)]; exact c2
  · rw [up_n (by decide), g 3 (by omega) (by omega) (by omega)]; exact c3
  · rw [up_n (by decide), esv]; exact c4
  · rw [up_n (by decide), g 4 (by omega) (by omega) (by omega)]; exact c5
  · rw [up_s, g5, hx]
  · intro i hi; rw [g _ (by omega) (by omega) (by omega)]; exact tmr i hi
  · intro k hk; rw [eS] at hk; rw [g _ (by omega) (by omega) (by omega), g _ (by omega) (by omega) (by omega), g _ (by omega) (by omega) (by omega)]; exact sp k hk
  · intro k hk
    rw [eP] at hk
    have q := hQ k hk
    unfold QR wed at q ⊢
    rw [g (35 + 8 * k) (by omega) (by omega) (by omega), g (36 + 8 * k) (by omega) (by omega) (by omega), g (37 + 8 * k) (by omega) (by omega) (by omega), g (38 + 8 * k) (by omega) (by omega) (by omega), g (39 + 8 * k) (by omega) (by omega) (by omega), g (40 + 8 * k) (by omega) (by omega) (by omega), g (41 + 8 * k) (by omega) (by omega) (by omega), g (42 + 8 * k) (by omega) (by omega) (by omega), esv]
    exact q
