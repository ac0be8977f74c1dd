/-! ===== what is told stays in bounds: lives, any statement; tell, feed ===== -/
theorem lfC_of {yr rv y v : Int32} (h : ¬ lfC yr rv y v = 0) : (yr.toInt < y.toInt → v.toInt ≤ rv.toInt) ∧ (y.toInt < yr.toInt → rv.toInt ≤ v.toInt) := by
  unfold lfC at h
  by_cases c1 : y ≤ yr
  · rw [if_pos c1] at h
    rw [i32_le] at c1
    by_cases c2 : yr ≤ y
    · rw [i32_le] at c2; omega
    · rw [if_neg c2] at h
      by_cases c3 : v < rv
      · rw [if_pos c3] at h; exact absurd rfl h
      · rw [i32_lt] at c3; omega
  · rw [if_neg c1] at h
    rw [i32_le] at c1
    by_cases c3 : rv < v
    · rw [if_pos c3] at h; exact absurd rfl h
    · rw [i32_lt] at c3; omega
theorem lfS_of {w : Nat → Int32} {y v : Int32} : ∀ k, ¬ (lfS w y v k).2 = 0 → ∀ i, i < k → ¬ lfC (w (67 + 2 * i)) (w (68 + 2 * i)) y v = 0
  | 0, _, i, hi => by omega
  | k + 1, h, i, hi => by
    have h : ¬ (if (lfS w y v k).2 = 0 then (0 : Int32) else lfC (w (67 + 2 * k)) (w (68 + 2 * k)) y v) = 0 := h
    by_cases c : (lfS w y v k).2 = 0
    · rw [if_pos c] at h; exact absurd rfl h
    · rw [if_neg c] at h
      by_cases e : i = k
      · subst e; exact h
      · exact lfS_of k c i (by omega)
theorem lfS_at {w : Nat → Int32} {y v : Int32} : ∀ k, ((lfS w y v k).1 = cY w ∧ ∀ i, i < k → ¬ w (67 + 2 * i) = y) ∨ ((lfS w y v k).1 < k ∧ w (67 + 2 * (lfS w y v k).1) = y)
  | 0 => Or.inl ⟨rfl, fun i hi => by omega⟩
  | k + 1 => by
    have e : (lfS w y v (k + 1)).1 = if w (67 + 2 * k) = y then k else (lfS w y v k).1 := rfl
    rw [e]
    by_cases c : w (67 + 2 * k) = y
    · rw [if_pos c]; exact Or.inr ⟨by omega, c⟩
    · rw [if_neg c]
      rcases lfS_at (w := w) (y := y) (v := v) k with ⟨a, b⟩ | ⟨a, b⟩
      · refine Or.inl ⟨a, fun i hi => ?_⟩
        by_cases q : i = k
        · subst q; exact c
        · exact b i (by omega)
      · exact Or.inr ⟨by omega, b⟩
theorem Vld_liv {w : Nat → Int32} (hv : Vld w) {y v : Int32} (hy : 1 ≤ y.toInt ∧ y.toInt ≤ 119) (hz : 0 ≤ v.toInt ∧ v.toInt ≤ 100000) (h1 : ¬ (lfS w y v (cY w)).2 = 0) (h2 : ¬ (lfS w y v (cY w)).1 = 10) : Vld (livW w (lfS w y v (cY w)).1 y v) := by
  have hs := lfS_le (w := w) (y := y) (v := v) (cY w) (Nat.le_refl _)
  have hf := fun i hi => lfC_of (lfS_of (w := w) (y := y) (v := v) (cY w) h1 i hi)
  have ha := lfS_at (w := w) (y := y) (v := v) (cY w)
  revert hs ha h2
  generalize (lfS w y v (cY w)).1 = s
  intro h2 hs ha
  have hY := hv.1.2.2
  have h8 := hv.1.1.2
  have h4 := hv.1.2.1.2
  have g : ∀ j, j ≠ 5 → j ≠ 67 + 2 * s → j ≠ 68 + 2 * s → livW w s y v j = w j := by
    intro j a b c; unfold livW; rw [upd_n c, upd_n b, upd_n a]
  have g1 : livW w s y v (67 + 2 * s) = y := by unfold livW; rw [upd_n (by omega), upd_s]
  have g2 : livW w s y v (68 + 2 * s) = v := by unfold livW; rw [upd_s]
  have g5 : livW w s y v 5 = w 5 + if s = cY w then 1 else 0 := by unfold livW; rw [upd_n (by omega), upd_n (by omega), upd_s]
  generalize livW w s y v = w' at *
  have eY : w' 5 = nI (if s = cY w then cY w + 1 else cY w) := by
    rw [g5]
    by_cases c : s = cY w
    · rw [if_pos c, if_pos c]; exact (cnt_up hY.1 (by omega)).1
    · rw [if_neg c, if_neg c, ← hY.1]; exact Int32.add_zero _
  have eY2 : cY w' = if s = cY w then cY w + 1 else cY w := nI_t eY (by split <;> omega)
  have hlt : ∀ i, i < cY w' → i = s ∨ (i ≠ s ∧ i < cY w) := by
    intro i hi
    rw [eY2] at hi
    by_cases q : i = s
    · exact Or.inl q
    · refine Or.inr ⟨q, ?_⟩
      by_cases c : s = cY w
      · rw [if_pos c] at hi; omega
      · rw [if_neg c] at hi; exact hi
  have hsn : s < 10 := by
    rcases ha with ⟨a, _⟩ | ⟨a, _⟩ <;> omega
  have gi : ∀ i, i ≠ s → w' (67 + 2 * i) = w (67 + 2 * i) ∧ w' (68 + 2 * i) = w (68 + 2 * i) := fun i hi => ⟨g _ (by omega) (by omega) (by omega), g _ (by omega) (by omega) (by omega)⟩
  have eS : cS w' = cS w := by unfold cS; rw [g 3 (by omega) (by omega) (by omega)]
  have eP : cP w' = cP w := by unfold cP; rw [g 4 (by omega) (by omega) (by omega)]
  obtain ⟨hc, h0, h1', h2', t6, t7, t8, t9, t10, sp, so, p, pl, y1, y2, y3⟩ := hv
  have heq : ∀ j, j < 67 → j ≠ 5 → w' j = w j := fun j a b => g j b (by omega) (by omega)
  have e0 := heq 0 (by omega) (by omega)
  have e1 := heq 1 (by omega) (by omega)
  have e2 := heq 2 (by omega) (by omega)
  have nodup : ∀ j, j < cY w → j ≠ s → ¬ (w (67 + 2 * j)).toInt = y.toInt := by
    intro j hj hjs z
    rcases ha with ⟨a, b⟩ | ⟨a, b⟩
    · exact b j hj (i32_eq.mpr z)
    · exact hjs (y2 j s hj a (by rw [b]; exact z))
  refine ⟨?_, by rw [e0]; exact h0, ?_, by rw [e0, e2]; exact h2', by rw [heq 6 (by omega) (by omega)]; exact t6, by rw [heq 7 (by omega) (by omega)]; exact t7, by rw [heq 8 (by omega) (by omega)]; exact t8, by rw [heq 9 (by omega) (by omega)]; exact t9, by rw [heq 10 (by omega) (by omega)]; exact t10, ?_, ?_, ?_, ?_, ?_, ?_, ?_⟩
  · unfold Cnt
    rw [eS, eP, eY2, eY, heq 3 (by omega) (by omega), heq 4 (by omega) (by omega)]
    refine ⟨hc.1, hc.2.1, rfl, ?_⟩
    by_cases c : s = cY w
    · rw [if_pos c]; omega
    · rw [if_neg c]; exact hY.2
  · rw [e0, e1, eS]
    rcases h1' with h1' | ⟨a, b, c⟩
    · exact Or.inl h1'
    · exact Or.inr ⟨a, b, fun k hk => by rw [heq (12 + 3 * k) (by omega) (by omega)]; exact c k hk⟩
  · intro k hk
    rw [eS] at hk
    rw [e0, heq (11 + 3 * k) (by omega) (by omega), heq (12 + 3 * k) (by omega) (by omega), heq (13 + 3 * k) (by omega) (by omega)]
    exact sp k hk
  · intro k hk
    rw [eS] at hk
    rw [heq (12 + 3 * k) (by omega) (by omega), heq (11 + 3 * (k + 1)) (by omega) (by omega)]
    exact so k hk
  · intro k hk
    rw [eP] at hk
    rw [heq (35 + 8 * k) (by omega) (by omega), heq (36 + 8 * k) (by omega) (by omega), heq (37 + 8 * k) (by omega) (by omega), heq (38 + 8 * k) (by omega) (by omega), heq (39 + 8 * k) (by omega) (by omega), heq (40 + 8 * k) (by omega) (by omega), heq (41 + 8 * k) (by omega) (by omega), heq (42 + 8 * k) (by omega) (by omega)]
    exact p k hk
  · intro k hk
    rw [eP] at hk
    rw [heq (37 + 8 * k) (by omega) (by omega)]
    exact pl k hk
  · intro i hi
    rcases hlt i hi with q | ⟨q, q2⟩
    · subst q; rw [g1, g2]; exact ⟨hy, hz.1, hz.2⟩
    · rw [(gi i q).1, (gi i q).2]; exact y1 i q2
  · intro i j hi hj
    rcases hlt i hi with q | ⟨q, q2⟩ <;> rcases hlt j hj with r | ⟨r, r2⟩
    · intro _; omega
    · subst q; rw [g1, (gi j r).1]; intro z; exact absurd z.symm (nodup j r2 r)
    · subst r; rw [g1, (gi i q).1]; intro z; exact absurd z (nodup i q2 q)
    · rw [(gi i q).1, (gi j r).1]; exact y2 i j q2 r2
  · intro i j hi hj
    rcases hlt i hi with q | ⟨q, q2⟩ <;> rcases hlt j hj with r | ⟨r, r2⟩
    · subst q; subst r; intro z; omega
    · subst q; rw [g1, g2, (gi j r).1, (gi j r).2]; intro z; exact (hf j r2).2 z
    · subst r; rw [g1, g2, (gi i q).1, (gi i q).2]; intro z; exact (hf i q2).1 z
    · rw [(gi i q).1, (gi j r).1, (gi i q).2, (gi j r).2]; exact y3 i j q2 r2
/-- a statement that stands leaves what is told in bounds, and goes on -/
def Gd (n a : Nat) (r : Int32 × Nat × (Nat → Int32)) : Prop := r.1 = 0 → Vld r.2.2 ∧ a ≤ r.2.1 ∧ r.2.1 ≤ n
theorem nx_gd {n a : Nat} {r : Int32 × Nat × Int32} {w : Nat → Int32} {K : Nat → Int32 → Int32 × Nat × (Nat → Int32)} (h1 : r.1 = 0 → a ≤ r.2.1 ∧ r.2.1 ≤ n) (h2 : r.1 = 0 → r.2.1 ≤ n → Gd n r.2.1 (K r.2.1 r.2.2)) : Gd n a (nx r w K) := by
  intro h
  by_cases c : r.1 = 0
  · rw [nx_ok c] at h ⊢
    obtain ⟨a1, a2⟩ := h1 c
    obtain ⟨b1, b2, b3⟩ := h2 c a2 h
    exact ⟨b1, by omega, b3⟩
  · rw [nx_no c] at h; exact absurd h c
theorem gd_no {n a e k wh : Nat} {w : Nat → Int32} (hk : 1 ≤ k) (hk2 : k < 8) (hw : wh ≤ 400) : Gd n a (flt (nI k) wh, e, w) := fun h => absurd h (flt_ne hk hk2 hw)
theorem nmF_ge {tp : Nat → Int32} {n a : Nat} {lo hi : Int32} (h : a ≤ n) : a ≤ (nmF tp n a lo hi).2.1 ∧ (nmF tp n a lo hi).2.1 ≤ n := by
  refine ⟨?_, nmF_le h⟩
  have h1 := nxA_le tp h
  have h2 := dgR_le tp (n - nxA tp n a) (nxA tp n a)
  unfold nmF
  by_cases c : inI (hrV tp n (nxA tp n a)) 48 57 = 0
  · rw [if_pos c]; exact h1.1
  · rw [if_neg c]; show a ≤ dgR _ _ _; omega
theorem enF_ge {tp : Nat → Int32} {n a : Nat} (h : a ≤ n) : a ≤ (enF tp n a).2.1 ∧ (enF tp n a).2.1 ≤ n := by
  refine ⟨?_, enF_le h⟩
  have h1 := nxA_le tp h
  unfold enF
  by_cases c : hrV tp n (nxA tp n a) = 59
  · rw [if_pos c]; show a ≤ nxA tp n a + 1; omega
  · rw [if_neg c]; exact h1.1
theorem wdE_ge {tp : Nat → Int32} {n a : Nat} (h : a ≤ n) : a ≤ wdE tp n a ∧ wdE tp n a ≤ n := by
  have := ltR_le tp (n - a) a
  unfold wdE; omega
theorem howF_ge {tp : Nat → Int32} {n a : Nat} (h : a ≤ n) : a ≤ (howF tp n a).2.1 ∧ (howF tp n a).2.1 ≤ n := by
  have h1 := nxA_le tp h
  have h2 := wdE_ge (tp := tp) h1.2
  unfold howF
  by_cases c1 : inI (hrV tp n (nxA tp n a)) 97 122 = 0
  · rw [if_pos c1]; exact h1
  rw [if_neg c1]
  by_cases c2 : wdV tp n (nxA tp n a) = 276913705
  · rw [if_pos c2]; show a ≤ wdE _ _ _ ∧ wdE _ _ _ ≤ n; omega
  rw [if_neg c2]
  by_cases c3 : wdV tp n (nxA tp n a) = 847604
  · rw [if_pos c3]; show a ≤ wdE _ _ _ ∧ wdE _ _ _ ≤ n; omega
  rw [if_neg c3]; show a ≤ wdE _ _ _ ∧ wdE _ _ _ ≤ n; omega
theorem howF_v {tp : Nat → Int32} {n a : Nat} : (howF tp n a).2.2 = 0 ∨ (howF tp n a).2.2 = 1 := by
  unfold howF
  by_cases c1 : inI (hrV tp n (nxA tp n a)) 97 122 = 0
  · rw [if_pos c1]; exact Or.inl rfl
  rw [if_neg c1]
  by_cases c2 : wdV tp n (nxA tp n a) = 276913705
  · rw [if_pos c2]; exact Or.inl rfl
  rw [if_neg c2]
  by_cases c3 : wdV tp n (nxA tp n a) = 847604
  · rw [if_pos c3]; exact Or.inr rfl
  rw [if_neg c3]; exact Or.inl rfl
theorem nm_bd {tp : Nat → Int32} {n a : Nat} {lo hi : Int32} (ha : a ≤ n) (hn : n ≤ 400) (h : (nmF tp n a lo hi).1 = 0) : lo.toInt ≤ (nmF tp n a lo hi).2.2.toInt ∧ (nmF tp n a lo hi).2.2.toInt ≤ hi.toInt := inI_of (nmF_v ha hn h)
section GD
variable {tp : Nat → Int32} {n a wh : Nat} {w : Nat → Int32}
theorem gd_born (hv : Vld w) (hn : n ≤ 400) (ha : a ≤ n) : Gd n a (bornF tp n a w) := by
  unfold bornF
  refine nx_gd (fun _ => nmF_ge ha) fun c1 l1 => nx_gd (fun _ => enF_ge l1) fun c2 l2 => fun _ => ⟨?_, Nat.le_refl _, l2⟩
  obtain ⟨b1, b2⟩ := nm_bd ha hn c1
  exact Vld_cg (Vld_bgW b1 b2) (fun j hj => by show bgX _ _ j = _; unfold bgX; rw [if_pos hj])
theorem gd_srv (hv : Vld w) (hn : n ≤ 400) (ha : a ≤ n) (hw : wh ≤ 400) : Gd n a (srvF tp n a wh w) := by
  unfold srvF
  by_cases c0 : w 3 = 8
  · rw [if_pos c0]; exact gd_no (k := 3) (by omega) (by omega) hw
  rw [if_neg c0]
  have h8 : cS w < 8 := by
    have hS := hv.1.1
    rcases Nat.lt_or_ge (cS w) 8 with z | z
    · exact z
    · exfalso; apply c0; rw [hS.1, show cS w = 8 by omega]; rfl
  refine nx_gd (fun _ => nmF_ge ha) fun c1 l1 => nx_gd (fun _ => nmF_ge l1) fun c2 l2 => nx_gd (fun _ => nmF_ge l2) fun c3 l3 => nx_gd (fun _ => enF_ge l3) fun c4 l4 => ?_
  have f1 := nm_bd ha hn c1
  have f2 := nm_bd l1 hn c2
  have f3 := nm_bd l2 hn c3
  by_cases d1 : (nmF tp n (nmF tp n a 0 1799).2.1 0 1799).2.2 ≤ (nmF tp n a 0 1799).2.2
  · rw [if_pos d1]; exact gd_no (k := 4) (by omega) (by omega) hw
  rw [if_neg d1]
  by_cases d2 : (nmF tp n a 0 1799).2.2 < w 0
  · rw [if_pos d2]; exact gd_no (k := 4) (by omega) (by omega) hw
  rw [if_neg d2]
  by_cases d3 : 0 < svc w (nmF tp n a 0 1799).2.2 (nmF tp n (nmF tp n a 0 1799).2.1 0 1799).2.2
  · rw [if_pos d3]; exact gd_no (k := 4) (by omega) (by omega) hw
  rw [if_neg d3]
  by_cases d4 : w 1 = -1
  · rw [if_pos d4]; exact fun _ => ⟨Vld_srv hv h8 f1 f2 f3 d1 d2 d3 (Or.inl d4), Nat.le_refl _, l4⟩
  rw [if_neg d4]
  by_cases d5 : (nmF tp n (nmF tp n a 0 1799).2.1 0 1799).2.2 ≤ w 1
  · rw [if_pos d5]; exact fun _ => ⟨Vld_srv hv h8 f1 f2 f3 d1 d2 d3 (Or.inr d5), Nat.le_refl _, l4⟩
  rw [if_neg d5]; exact gd_no (k := 4) (by omega) (by omega) hw
theorem gd_wed (hv : Vld w) (hn : n ≤ 400) (ha : a ≤ n) (hw : wh ≤ 400) : Gd n a (wedF tp n a wh w) := by
  unfold wedF
  by_cases c0 : w 4 = 4
  · rw [if_pos c0]; exact gd_no (k := 3) (by omega) (by omega) hw
  rw [if_neg c0]
  have h4 : cP w < 4 := by
    have hP := hv.1.2.1
    rcases Nat.lt_or_ge (cP w) 4 with z | z
    · exact z
    · exfalso; apply c0; rw [hP.1, show cP w = 4 by omega]; rfl
  refine nx_gd (fun _ => nmF_ge ha) fun c1 l1 => nx_gd (fun _ => nmF_ge l1) fun c2 l2 => nx_gd (fun _ => enF_ge l2) fun c4 l4 => ?_
  have f1 := nm_bd ha hn c1
  have f2 := nm_bd l1 hn c2
  by_cases d1 : (nmF tp n (nmF tp n a 0 1799).2.1 0 1799).2.2 < (nmF tp n a 0 1799).2.2
  · rw [if_pos d1]; exact gd_no (k := 4) (by omega) (by omega) hw
  rw [if_neg d1]
  by_cases d2 : (nmF tp n (nmF tp n a 0 1799).2.1 0 1799).2.2 < w 0
  · rw [if_pos d2]; exact gd_no (k := 4) (by omega) (by omega) hw
  rw [if_neg d2]
  by_cases d3 : cP w = 0
  · rw [if_pos d3]; exact fun _ => ⟨Vld_wed hv h4 f1 f2 (Or.inl d3), Nat.le_refl _, l4⟩
  rw [if_neg d3]
  by_cases d4 : w (37 + 8 * (cP w - 1)) = -1
  · rw [if_pos d4]; exact gd_no (k := 4) (by omega) (by omega) hw
  rw [if_neg d4]
  by_cases d5 : w (37 + 8 * (cP w - 1)) ≤ (nmF tp n (nmF tp n a 0 1799).2.1 0 1799).2.2
  · rw [if_pos d5]; exact fun _ => ⟨Vld_wed hv h4 f1 f2 (Or.inr d4), Nat.le_refl _, l4⟩
  rw [if_neg d5]; exact gd_no (k := 4) (by omega) (by omega) hw
theorem gd_prt (hv : Vld w) (hn : n ≤ 400) (ha : a ≤ n) (hw : wh ≤ 400) : Gd n a (prtF tp n a wh w) := by
  unfold prtF
  refine nx_gd (fun _ => nmF_ge ha) fun c1 l1 => nx_gd (fun _ => nmF_ge l1) fun c2 l2 => nx_gd (fun _ => howF_ge l2) fun c3 l3 => nx_gd (fun _ => nmF_ge l3) fun c4 l4 => nx_gd (fun _ => enF_ge l4) fun c5 l5 => ?_
  have f1 := nm_bd ha hn c1
  have f2 := nm_bd l1 hn c2
  have f4 := nm_bd l3 hn c4
  by_cases d3 : cP w = 0
  · rw [if_pos d3]; exact gd_no (k := 4) (by omega) (by omega) hw
  rw [if_neg d3]
  by_cases d4 : w (37 + 8 * (cP w - 1)) = -1
  · rw [if_pos d4]
    by_cases d5 : w (36 + 8 * (cP w - 1)) < (nmF tp n a 0 1799).2.2
    · rw [if_pos d5]
      refine fun _ => ⟨Vld_prt hv (by omega) ⟨i32_lt.mp d5, f1.2⟩ f2 howF_v f4, Nat.le_refl _, l5⟩
    · rw [if_neg d5]; exact gd_no (k := 4) (by omega) (by omega) hw
  rw [if_neg d4]; exact gd_no (k := 4) (by omega) (by omega) hw
theorem gd_liv (hv : Vld w) (hn : n ≤ 400) (ha : a ≤ n) (hw : wh ≤ 400) : Gd n a (livF tp n a wh w) := by
  unfold livF
  refine nx_gd (fun _ => nmF_ge ha) fun c1 l1 => nx_gd (fun _ => nmF_ge l1) fun c2 l2 => nx_gd (fun _ => enF_ge l2) fun c4 l4 => ?_
  have f1 := nm_bd ha hn c1
  have f2 := nm_bd l1 hn c2
  split
  · exact gd_no (k := 4) (by omega) (by omega) hw
  · rename_i d1
    split
    · exact gd_no (k := 4) (by omega) (by omega) hw
    · rename_i d2
      exact fun _ => ⟨Vld_liv hv f1 f2 d1 d2, Nat.le_refl _, l4⟩
theorem gd_ofs {what : Int32} (hv : Vld w) (hn : n ≤ 400) (ha : a ≤ n) (hw : wh ≤ 400) : Gd n a (ofsF tp n a wh w what) := by
  unfold ofsF
  refine nx_gd (fun _ => nmF_ge ha) fun c1 l1 => nx_gd (fun _ => nmF_ge l1) fun c2 l2 => nx_gd (fun _ => enF_ge l2) fun c4 l4 => ?_
  split
  · exact gd_no (k := 4) (by omega) (by omega) hw
  · rename_i d
    exact fun _ => ⟨Vld_set hv (m_placeT hv d).2.2, Nat.le_refl _, l4⟩
theorem gd_one {what hi : Int32} (hv : Vld w) (hn : n ≤ 400) (ha : a ≤ n) (hw : wh ≤ 400) : Gd n a (oneF tp n a wh w what hi) := by
  unfold oneF
  refine nx_gd (fun _ => nmF_ge ha) fun c1 l1 => nx_gd (fun _ => enF_ge l1) fun c4 l4 => ?_
  split
  · exact gd_no (k := 4) (by omega) (by omega) hw
  · rename_i d
    exact fun _ => ⟨Vld_set hv (m_placeT hv d).2.2, Nat.le_refl _, l4⟩
theorem gd_stmB {b e : Nat} {v : Int64} (hv : Vld w) (hn : n ≤ 400) (he : e ≤ n) (hb : b ≤ n) : Gd n e (stmB tp n b w v e) := by
  have hw : b ≤ 400 := by omega
  unfold stmB
  by_cases f0 : v = 50801
  · rw [if_pos f0]; exact gd_born hv hn he
  rw [if_neg f0]
  by_cases f1 : v = 10209515
  · rw [if_pos f1]; exact gd_srv hv hn he hw
  rw [if_neg f1]
  by_cases f2 : v = 16906
  · rw [if_pos f2]; exact gd_wed hv hn he hw
  rw [if_neg f2]
  by_cases f3 : v = 316163
  · rw [if_pos f3]; exact gd_prt hv hn he hw
  rw [if_neg f3]
  by_cases f4 : v = 6570631
  · rw [if_pos f4]; exact gd_liv hv hn he hw
  rw [if_neg f4]
  by_cases f5 : v = 1831504
  · rw [if_pos f5]; exact gd_ofs hv hn he hw
  rw [if_neg f5]
  by_cases f6 : v = 247664
  · rw [if_pos f6]; exact gd_ofs hv hn he hw
  rw [if_neg f6]
  by_cases f7 : v = 85447
  · rw [if_pos f7]; exact gd_one hv hn he hw
  rw [if_neg f7]
  by_cases f8 : v = 261338243
  · rw [if_pos f8]; exact gd_one hv hn he hw
  rw [if_neg f8]
  by_cases f9 : trmV v = -1
  · rw [if_pos f9]; exact gd_no (k := 1) (by omega) (by omega) hw
  rw [if_neg f9]; exact gd_one hv hn he hw
theorem gd_stm (hv : Vld w) (hn : n ≤ 400) (ha : a ≤ n) : Gd n (a + 1) (stmF tp n a w) := by
  have h1 := nxA_le tp ha
  unfold stmF
  by_cases d1 : inI (hrV tp n (nxA tp n a)) 97 122 = 0
  · rw [if_pos d1]; exact gd_no (k := 1) (by omega) (by omega) (by omega)
  rw [if_neg d1]
  have hlt := hrV_lt (by decide) d1
  have he : nxA tp n a + 1 ≤ wdE tp n (nxA tp n a) ∧ wdE tp n (nxA tp n a) ≤ n := by
    refine ⟨?_, (wdE_ge h1.2).2⟩
    unfold wdE
    rw [show n - nxA tp n a = (n - nxA tp n a - 1) + 1 by omega]
    unfold ltR
    unfold hrV at d1; rw [if_pos hlt] at d1
    rw [if_neg d1]
    exact (ltR_le tp _ _).1
  intro h
  obtain ⟨b1, b2, b3⟩ := gd_stmB hv hn he.2 h1.2 h
  exact ⟨b1, by omega, b3⟩
end GD
