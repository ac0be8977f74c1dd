/-! ===== the class's reader: a statement ===== -/
theorem skp_stop (tp : Nat → Int32) : ∀ r i, skp tp r i = i + r ∨ (¬ tp (skp tp r i) = 32 ∧ ¬ tp (skp tp r i) = 10)
  | 0, i => Or.inl rfl
  | r + 1, i => by
    unfold skp
    by_cases c : tp i = 32
    · rw [if_pos c]; have := skp_stop tp r (i + 1); rw [show i + (r + 1) = i + 1 + r by omega]; exact this
    rw [if_neg c]
    by_cases d : tp i = 10
    · rw [if_pos d]; have := skp_stop tp r (i + 1); rw [show i + (r + 1) = i + 1 + r by omega]; exact this
    · rw [if_neg d]; exact Or.inr ⟨c, d⟩
theorem nxA_id {tp : Nat → Int32} {n a : Nat} (h : a ≤ n) : nxA tp n (nxA tp n a) = nxA tp n a := by
  have h1 := nxA_le tp h
  have h2 := skp_stop tp (n - a) a
  have e : skp tp (n - a) a = nxA tp n a := rfl
  rw [e] at h2
  generalize nxA tp n a = b at *
  unfold nxA
  rcases h2 with h2 | ⟨h2, h3⟩
  · rw [show n - b = 0 by omega]; rfl
  · by_cases c : n - b = 0
    · rw [c]; rfl
    · rw [show n - b = (n - b - 1) + 1 by omega]; unfold skp; rw [if_neg h2, if_neg h3]
/-- what stands fast while a statement is read -/
def CtS (z eo po n : Nat) (bt tp : Nat → Int32) (F : pz_H) (w pi tm : Nat → Int32) (sr : Nat → Nat) (so qo tl : Nat → Nat → Int32) : Prop := (n ≤ 400 ∧ TpR bt tp n ∧ StaF z F ∧ z ≤ eo ∧ z ≤ po) ∧ (po + 19 ≤ eo ∨ eo + 3 ≤ po) ∧ PlF F po pi tm sr so qo tl ∧ PlnR w pi tm sr so qo tl ∧ Vld w
/-- what stands behind a statement -/
def StG (po eo n : Nat) (bt tp : Nat → Int32) (F : pz_H) (X : Option pz_H) (r : Int32 × Nat × (Nat → Int32)) : Prop := ∃ rv' vs' pi' tm' sr' so' qo' tl', X = some (EB eo rv' bt vs' (PB po pi' tm' sr' so' qo' tl' F)) ∧ rv' 1 = nI n ∧ rv' 7 = r.1 ∧ (r.1 = 0 → TkS rv' tp n (nxA tp n r.2.1)) ∧ PlnR r.2.2 pi' tm' sr' so' qo' tl'
/-- what performing a statement does; R is the reference's word on it -/
def PfR (po eo b : Nat) (bt vs : Nat → Int32) (F : pz_H) (w rv1 : Nat → Int32) (P : Option (Int32 × pz_H)) (R : Nat → Int32 × Nat × (Nat → Int32)) : Prop := (P = some (0, EB eo rv1 bt vs F) ∧ ∀ a, R a = (flt 4 b, a, w)) ∨ ∃ w' pi' tm' sr' so' qo' tl', P = some (1, EB eo rv1 bt vs (PB po pi' tm' sr' so' qo' tl' F)) ∧ PlnR w' pi' tm' sr' so' qo' tl' ∧ ∀ a, R a = (0, a, w')
section ST
variable {z eo po n : Nat} {w rv bt vs tp pi tm : Nat → Int32} {sr : Nat → Nat} {so qo tl : Nat → Nat → Int32} {F : pz_H}
theorem st_87f (hC : CtS z eo po n bt tp F w pi tm sr so qo tl) {st : Int32} {vb e : Nat} (h1 : rv 1 = nI n) (h7 : ¬ rv 7 = 0) : StG po eo n bt tp F (fX4_readStatement_87 (EB eo rv bt vs F) eo po st vb) (rv 7, e, w) := by
  obtain ⟨-, -, h, hr, -⟩ := hC
  unfold fX4_readStatement_87 fX4_readStatement_136 fX4_readStatement_147 fnX4_readClose
  rw [e_is, bs, e_g7, bs, if_neg h7, bs, e_g7, bs, if_neg h7, bs, if_neg h7]
  exact ⟨rv, vs, pi, tm, sr, so, qo, tl, by rw [h.pb], h1, rfl, fun q => absurd q h7, hr⟩
theorem st_fail (hC : CtS z eo po n bt tp F w pi tm sr so qo tl) {st : Int32} {vb e i N : Nat} (h1 : rv 1 = nI n) (h7 : ¬ rv 7 = 0) : StG po eo n bt tp F (fX4_readStatement_51 (N + 1) (EB eo rv bt vs F) eo po st vb (nI i)) (rv 7, e, w) := by
  show StG po eo n bt tp F (fX4_readStatement_51b _ _ _ _ _ _ _) _
  unfold fX4_readStatement_51b
  rw [e_r6, bs, e_vn, bs, e_g7, bs, if_neg h7]
  have := st_87f (vs := vs) (rv := rv) (st := st) (vb := vb) (e := e) hC h1 h7
  split <;> exact this
theorem st_step (hC : CtS z eo po n bt tp F w pi tm sr so qo tl) {st : Int32} {vb i j N s : Nat} {r : Int32 × Nat × Int32} {K : Nat → Int32 → Int32 × Nat × (Nat → Int32)} (hj : i + 1 = j) (h7 : rv 7 = 0) (hi : i < 4) (hslot : fnX8_slot (EB eo rv bt vs F) vb (nI i) = some (nI s)) (hle : r.2.1 ≤ n)
    (hread : ∃ rv' vs', fnX4_readSlot (EB eo rv bt vs F) eo po (nI s) (nI i) = some (EB eo rv' bt vs' F) ∧ SlR rv' vs vs' i n r)
    (cont : r.1 = 0 → r.2.1 ≤ n → ∀ (rv' vs' : Nat → Int32), rv' 1 = nI n → rv' 2 = nI r.2.1 → rv' 7 = 0 → vs' = upd vs i r.2.2 → StG po eo n bt tp F (fX4_readStatement_51 (N + 1) (EB eo rv' bt vs' F) eo po st vb (nI j)) (K r.2.1 r.2.2)) :
    StG po eo n bt tp F (fX4_readStatement_51 (N + 2) (EB eo rv bt vs F) eo po st vb (nI i)) (nx r w K) := by
  subst hj
  obtain ⟨rv', vs', e1, e2, e3, e4⟩ := hread
  show StG po eo n bt tp F (fX4_readStatement_51b _ _ _ _ _ _ _) _
  unfold fX4_readStatement_51b
  rw [e_r6, bs, e_vn, bs, if_neg (by rw [show (4 : Int32) = nI 4 from rfl, nI_leI (by decide) (by omega)]; omega), e_g7, bs, h7, if_pos rfl, hslot, bs, e1, bs, nI_1]
  by_cases c : r.1 = 0
  · rw [nx_ok c]
    exact cont c hle rv' vs' e2 (e4 c).1 (by rw [e3]; exact c) (e4 c).2
  · rw [nx_no c, ← e3]
    exact st_fail hC e2 (by rw [e3]; exact c)
theorem st_skip {st : Int32} {vb i j N : Nat} (hj : i + 1 = j) (h7 : rv 7 = 0) (hi : i < 4) (hslot : fnX8_slot (EB eo rv bt vs F) vb (nI i) = some 0) : fX4_readStatement_51 (N + 1) (EB eo rv bt vs F) eo po st vb (nI i) = fX4_readStatement_51 N (EB eo rv bt vs F) eo po st vb (nI j) := by
  subst hj
  show fX4_readStatement_51b _ _ _ _ _ _ _ = _
  unfold fX4_readStatement_51b fnX4_readSlot
  rw [e_r6, bs, e_vn, bs, if_neg (by rw [show (4 : Int32) = nI 4 from rfl, nI_leI (by decide) (by omega)]; omega), e_g7, bs, h7, if_pos rfl, hslot, bs, e_is, bs, if_pos rfl, bs, nI_1]
theorem st_end {st : Int32} {vb N : Nat} : fX4_readStatement_51 (N + 1) (EB eo rv bt vs F) eo po st vb (nI 4) = fX4_readStatement_87 (EB eo rv bt vs F) eo po st vb := by
  show fX4_readStatement_51b _ _ _ _ _ _ _ = _
  unfold fX4_readStatement_51b
  rw [e_r6, bs, e_vn, bs, if_pos (by decide)]
theorem st_87 (hC : CtS z eo po n bt tp F w pi tm sr so qo tl) {vb a b : Nat} {R : Nat → Int32 × Nat × (Nat → Int32)} (hb : b ≤ 400) (h1 : rv 1 = nI n) (h2 : rv 2 = nI a) (ha : a ≤ n) (h7 : rv 7 = 0)
    (hperf : ∀ rv1 : Nat → Int32, PfR po eo b bt vs F w rv1 (fnX8_perform (EB eo rv1 bt vs F) vb po (vs 0) (vs 1) (vs 2) (vs 3)) R) :
    StG po eo n bt tp F (fX4_readStatement_87 (EB eo rv bt vs F) eo po (nI b) vb) (nx (enF tp n a) w fun a _ => R a) := by
  obtain ⟨⟨h4, ht, hs, hz1, hz2⟩, hd, h, hr, hv⟩ := id hC
  obtain ⟨rv1, e1, q1, q7, q2⟩ := c_close (eo := eo) (vs := vs) (F := F) h4 ht h1 h2 ha h7
  have hle := (enF_ge (tp := tp) ha).2
  unfold fX4_readStatement_87
  rw [e1, bs, e_g7, bs, q7]
  by_cases c : (enF tp n a).1 = 0
  · rw [if_pos c, nx_ok c, e_r6, bs, e_v (i := 0) (k := 0) rfl (by decide), bs, bs, e_v (i := 1) (k := 1) rfl (by decide), bs, bs, e_v (i := 2) (k := 2) rfl (by decide), bs, bs, e_v (i := 3) (k := 3) rfl (by decide), bs]
    have q2 := q2 c
    rw [c] at q7
    rcases hperf rv1 with ⟨p1, p2⟩ | ⟨w', pi', tm', sr', so', qo', tl', p1, p2, p3⟩
    · rw [p1, bs, if_pos rfl, p2, c_blame, bs]
      unfold fX4_readStatement_136 fX4_readStatement_147
      have hf : ¬ flt 4 b = 0 := flt_ne (k := 4) (by decide) (by decide) hb
      have e0 : (4 : Int32) + 8 * nI b = flt 4 b := rfl
      rw [e_g7, bs, up_s, e0, if_neg hf]
      exact ⟨_, vs, pi, tm, sr, so, qo, tl, by rw [h.pb], by rw [up_n (by decide)]; exact q1, up_s, fun q => absurd q hf, hr⟩
    · rw [p1, bs, if_neg one_0, p3]
      unfold fX4_readStatement_136 fX4_readStatement_147
      rw [e_g7, bs, q7, if_pos rfl]
      obtain ⟨rv2, e3, e4, e5⟩ := c_token (eo := eo) (vs := vs) (f := PB po pi' tm' sr' so' qo' tl' F) h4 ht q1 q2 hle
      rw [e3, bs]
      exact ⟨rv2, vs, pi', tm', sr', so', qo', tl', rfl, by rw [e5 1 (by decide) (by decide) (by decide) (by decide)]; exact q1, by rw [e5 7 (by decide) (by decide) (by decide) (by decide)]; exact q7, fun _ => e4, p2⟩
  · rw [if_neg c, nx_no c]
    unfold fX4_readStatement_136 fX4_readStatement_147
    rw [e_g7, bs, q7, if_neg c]
    exact ⟨rv1, vs, pi, tm, sr, so, qo, tl, by rw [h.pb], q1, q7, fun q => absurd q c, hr⟩
/-- a verb's cell -/
theorem vb_of {v k : Nat} (hs : StaF z F) (hz : z ≤ eo) (hk : k < 14) (h : vbK (fun a => if a < z then F.1 a else none) v k) : pz_is (EB eo rv bt vs F) v 100 = some () ∧ pz_gI (EB eo rv bt vs F) v 100 1 = some (vbS k 0) ∧ pz_gI (EB eo rv bt vs F) v 100 2 = some (vbS k 1) ∧ pz_gI (EB eo rv bt vs F) v 100 3 = some (vbS k 2) ∧ pz_gI (EB eo rv bt vs F) v 100 4 = some (vbS k 3) ∧ fnJx29ce0_ordinal_8abf5 (EB eo rv bt vs F) v = some (nI k) ∧ pz_aI (EB eo rv bt vs F) ((EB eo rv bt vs F).2.1 3) 10 (nI k) = some (swM k) := by
  obtain ⟨s, w1, w2⟩ := h
  obtain ⟨w3, w4⟩ := sta_lt w1
  have w5 : (EB eo rv bt vs F).1 v = some (.inl (100, [.ref s, .int (vbS k 0), .int (vbS k 1), .int (vbS k 2), .int (vbS k 3), .int (nI k)])) := by unfold EB; rw [BU_ne (by omega)]; exact w3
  refine ⟨is_of w5, gI_of w5 rfl, gI_of w5 rfl, gI_of w5 rfl, gI_of w5 rfl, ?_, (rwK_of (hs.eb hz).2.2.2.1 (by decide)).1 _ k rfl hk⟩
  unfold fnJx29ce0_ordinal_8abf5
  rw [is_of w5, bs, gI_of w5 rfl, bs]
theorem sl_of {v k i : Nat} (hs : StaF z F) (hz : z ≤ eo) (hk : k < 14) (h : vbK (fun a => if a < z then F.1 a else none) v k) (hi : i < 4) : fnX8_slot (EB eo rv bt vs F) v (nI i) = some (vbS k i) := by
  obtain ⟨v0, v1, v2, v3, v4, -⟩ := vb_of (rv := rv) (bt := bt) (vs := vs) hs hz hk h
  unfold fnX8_slot
  rw [v0, bs]
  match i, hi with
  | 0, _ => rw [if_pos (by decide), v1, bs]
  | 1, _ => rw [if_neg (by decide), if_pos (by decide), v2, bs]
  | 2, _ => rw [if_neg (by decide), if_neg (by decide), if_pos (by decide), v3, bs]
  | 3, _ => rw [if_neg (by decide), if_neg (by decide), if_neg (by decide), if_pos (by decide), v4, bs]
end ST
theorem svK_if {α : Type} {w : Nat → Int32} {f t : Int32} {A B : α} : (if t ≤ f then A else if f < w 0 then A else if 0 < svc w f t then A else if w 1 = -1 then B else if t ≤ w 1 then B else A) = if svK w f t = 0 then A else B := by
  unfold svK
  (repeat' split) <;> first | rfl | (rename_i q; exact absurd q (by decide)) | (rename_i q; exact absurd rfl q)
theorem wdK_if {α : Type} {w : Nat → Int32} {b m : Int32} {A B : α} : (if m < b then A else if m < w 0 then A else if cP w = 0 then B else if w (37 + 8 * (cP w - 1)) = -1 then A else if w (37 + 8 * (cP w - 1)) ≤ m then B else A) = if wdK w b m = 0 then A else B := by
  unfold wdK
  (repeat' split) <;> first | rfl | (rename_i q; exact absurd q (by decide)) | (rename_i q; exact absurd rfl q)
theorem ptK_if {α : Type} {w : Nat → Int32} {m : Int32} {A B : α} : (if cP w = 0 then A else if w (37 + 8 * (cP w - 1)) = -1 then (if w (36 + 8 * (cP w - 1)) < m then B else A) else A) = if ptK w m = 0 then A else B := by
  unfold ptK
  (repeat' split) <;> first | rfl | (rename_i q; exact absurd q (by decide)) | (rename_i q; exact absurd rfl q)
theorem tyK_if {α : Type} {w : Nat → Int32} {y v : Int32} {A B : α} : (if (lfS w y v (cY w)).2 = 0 then A else if (lfS w y v (cY w)).1 = 10 then A else B) = if tyK w y v = 0 then A else B := by
  unfold tyK
  (repeat' split) <;> first | rfl | (rename_i q; exact absurd q (by decide)) | (rename_i q; exact absurd rfl q)
