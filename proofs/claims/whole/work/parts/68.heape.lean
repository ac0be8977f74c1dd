/-! ===== the class's reader as a block ===== -/
def EF (eo : Nat) (rv : Nat → Int32) : List Value := [.ref (eo + 1), .int (rv 1), .int (rv 2), .int (rv 3), .int (rv 4), .int (rv 5), .ref (eo + 2), .int (rv 7)]
def EC (eo : Nat) (rv bt vs : Nat → Int32) : Nat → Option pz_E := fun o => match o with
  | 0 => some (.inl (3, EF eo rv))
  | 1 => some (.inr (2, 400, .inl bt))
  | 2 => some (.inr (0, 4, .inl vs))
  | _ => none
def EB (eo : Nat) (rv bt vs : Nat → Int32) (f : pz_H) : pz_H := BU eo 3 (EC eo rv bt vs) f
section EBS
variable {eo po : Nat} {rv bt vs rv' bt' vs' : Nat → Int32} {f : pz_H}
theorem EB_EB : EB eo rv bt vs (EB eo rv' bt' vs' f) = EB eo rv bt vs f := BU_BU
theorem e_0 : (EB eo rv bt vs f).1 eo = some (.inl (3, EF eo rv)) := by unfold EB; rw [BU_0 (by decide)]; rfl
theorem e_is : pz_is (EB eo rv bt vs f) eo 3 = some () := is_of e_0
theorem PlF.eb {pi tm : Nat → Int32} {sr : Nat → Nat} {so qo tl : Nat → Nat → Int32} (h : PlF f po pi tm sr so qo tl) (hd : po + 19 ≤ eo ∨ eo + 3 ≤ po) : PlF (EB eo rv bt vs f) po pi tm sr so qo tl := fun o ho => by
  unfold EB; rw [BU_ne (by omega)]; exact h o ho
theorem EB_PB {pi tm : Nat → Int32} {sr : Nat → Nat} {so qo tl : Nat → Nat → Int32} (hd : po + 19 ≤ eo ∨ eo + 3 ≤ po) : PB po pi tm sr so qo tl (EB eo rv bt vs f) = EB eo rv bt vs (PB po pi tm sr so qo tl f) := by
  unfold PB EB; exact BU_comm hd
theorem StaF.eb {z : Nat} (h : StaF z f) (hb : z ≤ eo) : StaF z (EB eo rv bt vs f) := h.bu hb
theorem e_g1 : pz_gI (EB eo rv bt vs f) eo 3 1 = some (rv 1) := gI_of e_0 rfl
theorem e_w1 {v : Int32} : pz_sV (EB eo rv bt vs f) eo 3 1 (.int v) = some (EB eo (va_up rv 1 v) bt vs f) := by
  rw [sV_of e_0 (show 1 < 8 by decide)]; unfold EB; rw [BU_up0 (by decide)]
  congr 2; funext o; match o with
  | 0 => rfl
  | 1 => rfl
  | 2 => rfl
  | n + 3 => rfl
theorem e_g2 : pz_gI (EB eo rv bt vs f) eo 3 2 = some (rv 2) := gI_of e_0 rfl
theorem e_w2 {v : Int32} : pz_sV (EB eo rv bt vs f) eo 3 2 (.int v) = some (EB eo (va_up rv 2 v) bt vs f) := by
  rw [sV_of e_0 (show 2 < 8 by decide)]; unfold EB; rw [BU_up0 (by decide)]
  congr 2; funext o; match o with
  | 0 => rfl
  | 1 => rfl
  | 2 => rfl
  | n + 3 => rfl
theorem e_g3 : pz_gI (EB eo rv bt vs f) eo 3 3 = some (rv 3) := gI_of e_0 rfl
theorem e_w3 {v : Int32} : pz_sV (EB eo rv bt vs f) eo 3 3 (.int v) = some (EB eo (va_up rv 3 v) bt vs f) := by
  rw [sV_of e_0 (show 3 < 8 by decide)]; unfold EB; rw [BU_up0 (by decide)]
  congr 2; funext o; match o with
  | 0 => rfl
  | 1 => rfl
  | 2 => rfl
  | n + 3 => rfl
theorem e_g4 : pz_gI (EB eo rv bt vs f) eo 3 4 = some (rv 4) := gI_of e_0 rfl
theorem e_w4 {v : Int32} : pz_sV (EB eo rv bt vs f) eo 3 4 (.int v) = some (EB eo (va_up rv 4 v) bt vs f) := by
  rw [sV_of e_0 (show 4 < 8 by decide)]; unfold EB; rw [BU_up0 (by decide)]
  congr 2; funext o; match o with
  | 0 => rfl
  | 1 => rfl
  | 2 => rfl
  | n + 3 => rfl
theorem e_g5 : pz_gI (EB eo rv bt vs f) eo 3 5 = some (rv 5) := gI_of e_0 rfl
theorem e_w5 {v : Int32} : pz_sV (EB eo rv bt vs f) eo 3 5 (.int v) = some (EB eo (va_up rv 5 v) bt vs f) := by
  rw [sV_of e_0 (show 5 < 8 by decide)]; unfold EB; rw [BU_up0 (by decide)]
  congr 2; funext o; match o with
  | 0 => rfl
  | 1 => rfl
  | 2 => rfl
  | n + 3 => rfl
theorem e_g7 : pz_gI (EB eo rv bt vs f) eo 3 7 = some (rv 7) := gI_of e_0 rfl
theorem e_w7 {v : Int32} : pz_sV (EB eo rv bt vs f) eo 3 7 (.int v) = some (EB eo (va_up rv 7 v) bt vs f) := by
  rw [sV_of e_0 (show 7 < 8 by decide)]; unfold EB; rw [BU_up0 (by decide)]
  congr 2; funext o; match o with
  | 0 => rfl
  | 1 => rfl
  | 2 => rfl
  | n + 3 => rfl
theorem e_r0 : pz_gR (EB eo rv bt vs f) eo 3 0 = some (eo + 1) := gR_of e_0 rfl
theorem e_r6 : pz_gR (EB eo rv bt vs f) eo 3 6 = some (eo + 2) := gR_of e_0 rfl
theorem e_b {i : Int32} {k : Nat} (hi : i = nI k) (hk : k < 400) : pz_aI (EB eo rv bt vs f) (eo + 1) 2 i = some (bt k) := aI_of (n := 400) (by unfold EB; rw [BU_at (by decide)]; rfl) hi hk (by decide)
theorem e_v {i : Int32} {k : Nat} (hi : i = nI k) (hk : k < 4) : pz_aI (EB eo rv bt vs f) (eo + 2) 0 i = some (vs k) := aI_of (n := 4) (by unfold EB; rw [BU_at (by decide)]; rfl) hi hk (by decide)
theorem e_vn : pz_ln (EB eo rv bt vs f) (eo + 2) 0 = some 4 := by
  have hc : (EB eo rv bt vs f).1 (eo + 2) = some (.inr (0, 4, .inl vs)) := by unfold EB; rw [BU_at (by decide)]; rfl
  unfold pz_ln; rw [hc]; rfl
theorem e_wb {i x : Int32} {k : Nat} (hi : i = nI k) (hk : k < 400) : pz_tI (EB eo rv bt vs f) (eo + 1) 2 i x = some (EB eo rv (upd bt k x) vs f) := by
  rw [tI_of (n := 400) (g := bt) (by unfold EB; rw [BU_at (by decide)]; rfl) hi hk (by decide)]
  unfold EB; rw [BU_up (by decide)]
  congr 2; funext o; match o with
  | 0 => rfl
  | 1 => rfl
  | 2 => rfl
  | n + 3 => rfl
theorem e_wv {i x : Int32} {k : Nat} (hi : i = nI k) (hk : k < 4) : pz_tI (EB eo rv bt vs f) (eo + 2) 0 i x = some (EB eo rv bt (upd vs k x) f) := by
  rw [tI_of (n := 4) (g := vs) (by unfold EB; rw [BU_at (by decide)]; rfl) hi hk (by decide)]
  unfold EB; rw [BU_up (by decide)]
  congr 2; funext o; match o with
  | 0 => rfl
  | 1 => rfl
  | 2 => rfl
  | n + 3 => rfl
/-- the class's bytes are the reference's tape -/
def TpR (bt tp : Nat → Int32) (n : Nat) : Prop := ∀ j, j < n → bt j &&& 255 = tp j ∧ (bt j = 32 ↔ tp j = 32) ∧ (bt j = 10 ↔ tp j = 10) ∧ (bt j = 59 ↔ tp j = 59)
theorem c_byteAt {tp : Nat → Int32} {n k : Nat} (hn : rv 1 = nI n) (h4 : n ≤ 400) (ht : TpR bt tp n) (hk : k < n) : fnX4_byteAt (EB eo rv bt vs f) eo (nI k) = some (tp k) := by
  unfold fnX4_byteAt fX4_byteAt_26
  rw [e_is, bs, if_neg (nI_pos (by omega)), e_g1, bs, hn, if_neg (by rw [nI_leI (by omega) (by omega)]; omega), e_r0, bs, e_b rfl (by omega), bs, (ht k hk).1]
theorem c_isLetter (x : Int32) : fnX4_isLetter x = some (inI x 97 122) := by
  unfold fnX4_isLetter fX4_isLetter_16 fX4_isLetter_17 inI
  by_cases c : x < 97
  · rw [if_pos c, if_pos c, pb0]
  rw [if_neg c, if_neg c]
  by_cases d : 122 < x
  · rw [if_pos d, if_pos d, pb0]
  · rw [if_neg d, if_neg d, pb1]
theorem c_isDigit (x : Int32) : fnX4_isDigit x = some (inI x 48 57) := by
  unfold fnX4_isDigit fX4_isDigit_16 fX4_isDigit_17 inI
  by_cases c : x < 48
  · rw [if_pos c, if_pos c, pb0]
  rw [if_neg c, if_neg c]
  by_cases d : 57 < x
  · rw [if_pos d, if_pos d, pb0]
  · rw [if_neg d, if_neg d, pb1]
theorem c_word_loop {tp : Nat → Int32} {n : Nat} (h4 : n ≤ 400) (ht : TpR bt tp n) : ∀ (N r i : Nat) (rv : Nat → Int32), i + r = n → r < N → rv 1 = nI n → rv 2 = nI i → fX4_readWord_5 N (EB eo rv bt vs f) eo = some (EB eo (va_up rv 2 (nI (ltR tp r i))) bt vs f) := by
  intro N
  induction N with
  | zero => intro r i rv _ h; omega
  | succ N ih =>
    intro r i rv hi hN h1 h2
    show fX4_readWord_5b _ _ _ = _
    unfold fX4_readWord_5b fX4_readWord_43
    rw [e_g2, bs, e_g1, bs, h1, h2]
    have self : va_up rv 2 (nI i) = rv := by rw [← h2]; exact up_id
    cases r with
    | zero =>
      rw [if_pos (by rw [nI_leI (by omega) (by omega)]; omega)]
      show some _ = some (EB eo (va_up rv 2 (nI i)) bt vs f)
      rw [self]
    | succ r =>
      rw [if_neg (by rw [nI_leI (by omega) (by omega)]; omega), bs, c_byteAt h1 h4 ht (by omega), bs, c_isLetter, bs, bs, nI_1, e_w2, bs]
      unfold ltR
      by_cases c : inI (tp i) 97 122 = 0
      · rw [if_pos c, if_pos c, self]
      · rw [if_neg c, if_neg c, ih r (i + 1) _ (by omega) (by omega) (by rw [up_n (by decide)]; exact h1) up_s, up_up]
theorem c_num_loop {tp : Nat → Int32} {n pl : Nat} (h4 : n ≤ 400) (ht : TpR bt tp n) : ∀ (N r i : Nat) (rv : Nat → Int32), i + r = n → r < N → pl ≤ i → rv 1 = nI n → rv 2 = nI i → rv 4 = nI pl → ∃ rv', fX4_readNumber_5 N (EB eo rv bt vs f) eo = some (EB eo rv' bt vs f) ∧ rv' 2 = nI (dgR tp r i) ∧ rv' 5 = nvR tp pl r i (rv 5) ∧ rv' 3 = (if 7 < dgR tp r i - pl then 4 else 2) ∧ ∀ q, q ≠ 2 → q ≠ 3 → q ≠ 5 → rv' q = rv q := by
  intro N
  induction N with
  | zero => intro r i rv _ h; omega
  | succ N ih =>
    intro r i rv hi hN hp h1 h2 hpl
    show ∃ rv', fX4_readNumber_5b _ _ _ = _ ∧ _
    unfold fX4_readNumber_5b
    have stop : ∃ rv', fX4_readNumber_80 (EB eo rv bt vs f) eo = some (EB eo rv' bt vs f) ∧ rv' 2 = nI i ∧ rv' 5 = rv 5 ∧ rv' 3 = (if 7 < i - pl then 4 else 2) ∧ ∀ q, q ≠ 2 → q ≠ 3 → q ≠ 5 → rv' q = rv q := by
      unfold fX4_readNumber_80 fX4_readNumber_100
      rw [e_g2, bs, e_g4, bs, h2, hpl, nI_sub hp]
      by_cases c : 7 < i - pl
      · rw [if_neg (by rw [show (7 : Int32) = nI 7 from rfl, nI_leI (by omega) (by decide)]; omega), e_w3, bs, if_pos c]
        exact ⟨_, rfl, by rw [up_n (by decide)]; exact h2, by rw [up_n (by decide)], up_s, fun q a b d => up_n b⟩
      · rw [if_pos (by rw [show (7 : Int32) = nI 7 from rfl, nI_leI (by omega) (by decide)]; omega), e_w3, bs, if_neg c]
        exact ⟨_, rfl, by rw [up_n (by decide)]; exact h2, by rw [up_n (by decide)], up_s, fun q a b d => up_n b⟩
    rw [e_g2, bs, e_g1, bs, h1, h2]
    cases r with
    | zero =>
      rw [if_pos (by rw [nI_leI (by omega) (by omega)]; omega)]; exact stop
    | succ r =>
      rw [if_neg (by rw [nI_leI (by omega) (by omega)]; omega), bs, c_byteAt h1 h4 ht (by omega), bs, c_isDigit, bs]
      unfold dgR nvR
      by_cases c : inI (tp i) 48 57 = 0
      · rw [if_pos c, if_pos c, if_pos c]; exact stop
      rw [if_neg c, if_neg c, if_neg c, bs, e_g4, bs, hpl, nI_sub hp]
      unfold fX4_readNumber_67
      by_cases d : 7 ≤ i - pl
      · rw [if_pos (by rw [show (7 : Int32) = nI 7 from rfl, nI_leI (by decide) (by omega)]; omega), e_g2, bs, h2, nI_1, e_w2, bs, if_pos d]
        obtain ⟨rv', e1, e2, e3, e4, e5⟩ := ih r (i + 1) (va_up rv 2 (nI (i + 1))) (by omega) (by omega) (by omega) (by rw [up_n (by decide)]; exact h1) up_s (by rw [up_n (by decide)]; exact hpl)
        exact ⟨rv', e1, e2, by rw [e3, up_n (by decide)], e4, fun q a b d => by rw [e5 q a b d, up_n a]⟩
      · rw [if_neg (by rw [show (7 : Int32) = nI 7 from rfl, nI_leI (by decide) (by omega)]; omega), e_g5, bs, bs, c_byteAt h1 h4 ht (by omega), bs, e_w5, bs, e_g2, bs, up_n (show (2 : Nat) ≠ 5 by decide), h2, nI_1, e_w2, bs, if_neg d]
        obtain ⟨rv', e1, e2, e3, e4, e5⟩ := ih r (i + 1) (va_up (va_up rv 5 (10 * rv 5 + tp i - 48)) 2 (nI (i + 1))) (by omega) (by omega) (by omega) (by rw [up_n (by decide), up_n (by decide)]; exact h1) up_s (by rw [up_n (by decide), up_n (by decide)]; exact hpl)
        exact ⟨rv', e1, e2, by rw [e3, up_n (by decide), up_s], e4, fun q a b d => by rw [e5 q a b d, up_n a, up_n d]⟩
end EBS
/-- the token that begins at b; where it ends -/
def tkT (tp : Nat → Int32) (n b : Nat) : Int32 := if b < n then (if inI (tp b) 97 122 = 0 then (if inI (tp b) 48 57 = 0 then (if tp b = 59 then 3 else 4) else (if 7 < dgR tp (n - b) b - b then 4 else 2)) else 1) else 0
def tkE (tp : Nat → Int32) (n b : Nat) : Nat := if b < n then (if inI (tp b) 97 122 = 0 then (if inI (tp b) 48 57 = 0 then b + 1 else dgR tp (n - b) b) else wdE tp n b) else b
def TkS (rv tp : Nat → Int32) (n b : Nat) : Prop := rv 3 = tkT tp n b ∧ rv 4 = nI b ∧ rv 2 = nI (tkE tp n b) ∧ (b < n → inI (tp b) 97 122 = 0 → ¬ inI (tp b) 48 57 = 0 → rv 5 = nvR tp b (n - b) b 0)
section TKS
variable {eo po : Nat} {rv bt vs rv' bt' vs' tp : Nat → Int32} {f : pz_H}
theorem c_tok52 {n b : Nat} (h4 : n ≤ 400) (ht : TpR bt tp n) (h1 : rv 1 = nI n) (h2 : rv 2 = nI b) (hb : b ≤ n) : ∃ rv', fX4_readToken_52 (EB eo rv bt vs f) eo = some (EB eo rv' bt vs f) ∧ TkS rv' tp n b ∧ ∀ q, q ≠ 2 → q ≠ 3 → q ≠ 4 → q ≠ 5 → rv' q = rv q := by
  unfold fX4_readToken_52 fX4_readToken_154 TkS tkT tkE
  rw [e_g2, bs, h2, e_w4, bs, e_g2, bs, e_g1, bs, up_n (show (2 : Nat) ≠ 4 by decide), up_n (show (1 : Nat) ≠ 4 by decide), h1, h2]
  by_cases c : b < n
  · rw [if_pos (by rw [nI_ltI (by omega) (by omega)]; exact c), bs, c_byteAt (by rw [up_n (by decide)]; exact h1) h4 ht c, bs, c_isLetter, bs]
    simp only [if_pos c]
    by_cases d : inI (tp b) 97 122 = 0
    · rw [if_pos d, bs, c_byteAt (by rw [up_n (by decide)]; exact h1) h4 ht c, bs, c_isDigit, bs]
      simp only [if_pos d]
      by_cases e : inI (tp b) 48 57 = 0
      · rw [if_pos e, e_r0, bs, bs, e_b rfl (by omega), bs]
        simp only [if_pos e]
        unfold fX4_readToken_141 fX4_readToken_154
        by_cases g : tp b = 59
        · rw [if_pos ((ht b c).2.2.2.mpr g), e_w3, bs, e_g2, bs, e_w2, bs, if_pos g]
          refine ⟨_, rfl, ⟨by rw [up_n (by decide), up_s], by rw [up_n (by decide), up_n (by decide), up_s], ?_, fun _ _ z => absurd e z⟩, fun q a1 a2 a3 a4 => by rw [up_n a1, up_n a2, up_n a3]⟩
          rw [up_s, up_n (by decide), up_n (by decide), h2, nI_1]
        · rw [if_neg (fun z => g ((ht b c).2.2.2.mp z)), e_w3, bs, e_g2, bs, e_w2, bs, if_neg g]
          refine ⟨_, rfl, ⟨by rw [up_n (by decide), up_s], by rw [up_n (by decide), up_n (by decide), up_s], ?_, fun _ _ z => absurd e z⟩, fun q a1 a2 a3 a4 => by rw [up_n a1, up_n a2, up_n a3]⟩
          rw [up_s, up_n (by decide), up_n (by decide), h2, nI_1]
      · rw [if_neg e]
        simp only [if_neg e]
        unfold fnX4_readNumber
        rw [e_is, bs, e_w5, bs]
        obtain ⟨rv', e1, e2, e3, e4, e5⟩ := c_num_loop (eo := eo) (vs := vs) (f := f) (pl := b) h4 ht pz_F (n - b) b (va_up (va_up rv 4 (nI b)) 5 0) (by omega) (by unfold pz_F; omega) (Nat.le_refl _) (by rw [up_n (by decide), up_n (by decide)]; exact h1) (by rw [up_n (by decide), up_n (by decide)]; exact h2) (by rw [up_n (by decide), up_s])
        rw [e1, bs]
        refine ⟨rv', rfl, ⟨e4, by rw [e5 4 (by decide) (by decide) (by decide), up_n (by decide), up_s], e2, fun _ _ _ => by rw [e3, up_s]⟩, fun q a1 a2 a3 a4 => by rw [e5 q a1 a2 a4, up_n a4, up_n a3]⟩
    · rw [if_neg d]
      simp only [if_neg d]
      unfold fnX4_readWord
      rw [e_is, bs, e_w3, bs, c_word_loop h4 ht pz_F (n - b) b _ (by omega) (by unfold pz_F; omega) (by rw [up_n (by decide), up_n (by decide)]; exact h1) (by rw [up_n (by decide), up_n (by decide)]; exact h2), bs]
      refine ⟨_, rfl, ⟨by rw [up_n (by decide), up_s], by rw [up_n (by decide), up_n (by decide), up_s], by rw [up_s]; rfl, fun _ z => absurd z d⟩, fun q a1 a2 a3 a4 => by rw [up_n a1, up_n a2, up_n a3]⟩
  · rw [if_neg (by rw [nI_ltI (by omega) (by omega)]; exact c), e_w3, bs]
    simp only [if_neg c]
    refine ⟨_, rfl, ⟨up_s, by rw [up_n (by decide), up_s], by rw [up_n (by decide), up_n (by decide)]; exact h2, fun z => absurd z c⟩, fun q a1 a2 a3 a4 => by rw [up_n a2, up_n a3]⟩
theorem c_tok_loop {n : Nat} (h4 : n ≤ 400) (ht : TpR bt tp n) : ∀ (N r a : Nat) (rv : Nat → Int32), a + r = n → r < N → rv 1 = nI n → rv 2 = nI a → ∃ rv', fX4_readToken_0 N (EB eo rv bt vs f) eo = some (EB eo rv' bt vs f) ∧ TkS rv' tp n (skp tp r a) ∧ ∀ q, q ≠ 2 → q ≠ 3 → q ≠ 4 → q ≠ 5 → rv' q = rv q := by
  intro N
  induction N with
  | zero => intro r a rv _ h; omega
  | succ N ih =>
    intro r a rv ha hN h1 h2
    show ∃ rv', fX4_readToken_0b _ _ _ = _ ∧ _
    unfold fX4_readToken_0b
    rw [e_g2, bs, e_g1, bs, h1, h2]
    cases r with
    | zero =>
      rw [if_pos (by rw [nI_leI (by omega) (by omega)]; omega)]
      exact c_tok52 (b := a) h4 ht h1 h2 (by omega)
    | succ r =>
      have hl : a < n := by omega
      rw [if_neg (by rw [nI_leI (by omega) (by omega)]; omega), e_r0, bs, bs, e_b rfl (by omega), bs, bs, bs, e_b rfl (by omega), bs]
      have go : ∃ rv', fX4_readToken_39 (fX4_readToken_0 N) (EB eo rv bt vs f) eo = some (EB eo rv' bt vs f) ∧ TkS rv' tp n (skp tp r (a + 1)) ∧ ∀ q, q ≠ 2 → q ≠ 3 → q ≠ 4 → q ≠ 5 → rv' q = rv q := by
        unfold fX4_readToken_39
        rw [e_g2, bs, h2, nI_1, e_w2, bs]
        obtain ⟨rv', e1, e2, e3⟩ := ih r (a + 1) (va_up rv 2 (nI (a + 1))) (by omega) (by omega) (by rw [up_n (by decide)]; exact h1) up_s
        exact ⟨rv', e1, e2, fun q a1 a2 a3 a4 => by rw [e3 q a1 a2 a3 a4, up_n a1]⟩
      unfold skp
      by_cases c : tp a = 32
      · rw [if_pos ((ht a hl).2.1.mpr c), if_pos c]; exact go
      rw [if_neg (fun z => c ((ht a hl).2.1.mp z)), if_neg c]
      by_cases d : tp a = 10
      · rw [if_pos ((ht a hl).2.2.1.mpr d), if_pos d]; exact go
      · rw [if_neg (fun z => d ((ht a hl).2.2.1.mp z)), if_neg d]
        exact c_tok52 h4 ht h1 h2 (by omega)
theorem c_token {n a : Nat} (h4 : n ≤ 400) (ht : TpR bt tp n) (h1 : rv 1 = nI n) (h2 : rv 2 = nI a) (ha : a ≤ n) : ∃ rv', fnX4_readToken (EB eo rv bt vs f) eo = some (EB eo rv' bt vs f) ∧ TkS rv' tp n (nxA tp n a) ∧ ∀ q, q ≠ 2 → q ≠ 3 → q ≠ 4 → q ≠ 5 → rv' q = rv q := by
  unfold fnX4_readToken
  rw [e_is, bs]
  exact c_tok_loop h4 ht pz_F (n - a) a rv (by omega) (by unfold pz_F; omega) h1 h2
theorem c_blame (k p : Int32) : fnX4_blame (EB eo rv bt vs f) eo k p = some (EB eo (va_up rv 7 (k + 8 * p)) bt vs f) := by
  unfold fnX4_blame; rw [e_is, bs, e_w7, bs]
end TKS
