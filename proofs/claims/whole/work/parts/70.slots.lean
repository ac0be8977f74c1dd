/-! ===== the class's reader: slots, how, the close ===== -/
/-- behind a slot: r is what the reference reads there -/
def SlR (rv' vs vs' : Nat → Int32) (i n : Nat) (r : Int32 × Nat × Int32) : Prop := rv' 1 = nI n ∧ rv' 7 = r.1 ∧ (r.1 = 0 → rv' 2 = nI r.2.1 ∧ vs' = upd vs i r.2.2)
theorem let_dig {x : Int32} (h : ¬ inI x 48 57 = 0) : inI x 97 122 = 0 := by
  have := inI_of h
  have x57 : (57 : Int32).toInt = 57 := rfl
  have x97 : (97 : Int32).toInt = 97 := rfl
  rw [inI_0, i32_lt]; left; omega
theorem sign_59 {x : Int32} (h : x = 59) : inI x 48 57 = 0 ∧ inI x 97 122 = 0 := by subst h; decide
theorem hrV_in {tp : Nat → Int32} {n b : Nat} (h : b < n) : hrV tp n b = tp b := if_pos h
theorem hrV_out {tp : Nat → Int32} {n b : Nat} (h : ¬ b < n) : hrV tp n b = -1 := if_neg h
theorem tk_num {tp : Nat → Int32} {n b : Nat} (h : ¬ inI (hrV tp n b) 48 57 = 0) : b < n ∧ inI (tp b) 97 122 = 0 ∧ ¬ inI (tp b) 48 57 = 0 ∧ tkT tp n b = (if 7 < dgR tp (n - b) b - b then 4 else 2) ∧ tkE tp n b = dgR tp (n - b) b := by
  have c := hrV_lt (by decide) h
  rw [hrV_in c] at h
  have d := let_dig h
  unfold tkT tkE
  simp only [if_pos c, if_pos d, if_neg h]
  exact ⟨c, d, h, trivial, trivial⟩
theorem tk_nonum {tp : Nat → Int32} {n b : Nat} (h : inI (hrV tp n b) 48 57 = 0) : ¬ tkT tp n b = 2 := by
  unfold tkT
  by_cases c : b < n
  · rw [hrV_in c] at h
    rw [if_pos c, if_pos h]
    by_cases d : inI (tp b) 97 122 = 0
    · rw [if_pos d]; split <;> decide
    · rw [if_neg d]; decide
  · rw [if_neg c]; decide
theorem tk_let {tp : Nat → Int32} {n b : Nat} (h : ¬ inI (hrV tp n b) 97 122 = 0) : b < n ∧ tkT tp n b = 1 ∧ tkE tp n b = wdE tp n b := by
  have c := hrV_lt (by decide) h
  rw [hrV_in c] at h
  unfold tkT tkE
  simp only [if_pos c, if_neg h]
  exact ⟨c, trivial, trivial⟩
theorem tk_nolet {tp : Nat → Int32} {n b : Nat} (h : inI (hrV tp n b) 97 122 = 0) : ¬ tkT tp n b = 1 := by
  unfold tkT
  by_cases c : b < n
  · rw [hrV_in c] at h
    rw [if_pos c, if_pos h]
    (repeat' split) <;> decide
  · rw [if_neg c]; decide
theorem tk_59 {tp : Nat → Int32} {n b : Nat} : (hrV tp n b = 59 → b < n ∧ tkT tp n b = 3 ∧ tkE tp n b = b + 1) ∧ (¬ hrV tp n b = 59 → ¬ tkT tp n b = 3) := by
  constructor
  · intro h
    have c : b < n := by
      apply Classical.byContradiction; intro q; rw [hrV_out q] at h; exact absurd h (by decide)
    rw [hrV_in c] at h
    obtain ⟨h1, h2⟩ := sign_59 h
    unfold tkT tkE
    simp only [if_pos c, if_pos h1, if_pos h2, if_pos h]
    exact ⟨c, trivial, trivial⟩
  · intro h
    unfold tkT
    by_cases c : b < n
    · rw [hrV_in c] at h
      rw [if_pos c, if_neg h]
      (repeat' split) <;> decide
    · rw [if_neg c]; decide
section SL
variable {eo po z : Nat} {w rv bt vs tp pi tm : Nat → Int32} {sr : Nat → Nat} {so qo tl : Nat → Nat → Int32} {F : pz_H}
/-- a slot that takes a number, by what is asked of it -/
theorem c_slotG {n a s i : Nat} {lo hi : Int32} (h4 : n ≤ 400) (ht : TpR bt tp n) (h1 : rv 1 = nI n) (h2 : rv 2 = nI a) (ha : a ≤ n) (h7 : rv 7 = 0) (hs0 : ¬ nI s = 0) (hs2 : ¬ nI s = 2) (hi4 : i < 4)
    (hW : ∀ (rv1 : Nat → Int32), ((fnX9_isWithin (EB eo rv1 bt vs F) (nI s) (rv1 5)).bind fun x4 => if x4 = 0 then fX4_readSlot_69 (EB eo rv1 bt vs F) eo else if nI s = 1 then (some (rv1 5)).bind fun v5 => (fnX3_hasSpouse (EB eo rv1 bt vs F) po v5).bind fun x6 => if x6 = 0 then fX4_readSlot_69 (EB eo rv1 bt vs F) eo else fX4_readSlot_81 (EB eo rv1 bt vs F) eo (nI i) else fX4_readSlot_81 (EB eo rv1 bt vs F) eo (nI i)) = if inI (rv1 5) lo hi = 0 then fX4_readSlot_69 (EB eo rv1 bt vs F) eo else fX4_readSlot_81 (EB eo rv1 bt vs F) eo (nI i)) :
    ∃ rv' vs', fnX4_readSlot (EB eo rv bt vs F) eo po (nI s) (nI i) = some (EB eo rv' bt vs' F) ∧ SlR rv' vs vs' i n (nmF tp n a lo hi) := by
  obtain ⟨rv1, e1, ⟨t1, t2, t3, t4⟩, e2⟩ := c_token (eo := eo) (vs := vs) (f := F) h4 ht h1 h2 ha
  have q1 : rv1 1 = nI n := by rw [e2 1 (by decide) (by decide) (by decide) (by decide)]; exact h1
  have q7 : rv1 7 = 0 := by rw [e2 7 (by decide) (by decide) (by decide) (by decide)]; exact h7
  unfold fnX4_readSlot fX4_readSlot_91
  rw [e_is, bs, if_neg hs0, e1, bs, if_neg hs2, e_g3, bs, t1]
  generalize hb : nxA tp n a = b at *
  unfold nmF
  rw [hb]
  by_cases c : inI (hrV tp n b) 48 57 = 0
  · rw [if_neg (tk_nonum c), if_pos c, e_g4, bs, t2, c_blame, bs]
    exact ⟨_, vs, rfl, by rw [up_n (by decide)]; exact q1, up_s, fun z => absurd z (flt_ne (k := 1) (by decide) (by decide) (by have := nxA_le tp ha; omega))⟩
  obtain ⟨d1, d2, d3, d4, d5⟩ := tk_num c
  have t4' := t4 d1 d2 d3
  rw [if_neg c, d4]
  unfold nmC
  by_cases g : 7 < dgR tp (n - b) b - b
  · rw [if_pos g, if_neg (by decide), e_g4, bs, t2, c_blame, bs]
    refine ⟨_, vs, rfl, by rw [up_n (by decide)]; exact q1, ?_, ?_⟩
    · rw [up_s]; dsimp only; rw [if_pos g]; rfl
    · dsimp only; rw [if_pos g]
      intro z; exact absurd z (flt_ne (k := 1) (by decide) (by decide) (by have := nxA_le tp ha; omega))
  · rw [if_neg g, if_pos rfl, e_g5, bs, hW rv1, t4']
    simp only [if_neg g]
    by_cases k : inI (nvR tp b (n - b) b 0) lo hi = 0
    · rw [if_pos k]
      unfold fX4_readSlot_69 fX4_readSlot_91
      rw [e_g4, bs, t2, c_blame, bs]
      refine ⟨_, vs, rfl, by rw [up_n (by decide)]; exact q1, ?_, ?_⟩
      · rw [up_s]; dsimp only; rw [if_pos k]; rfl
      · dsimp only; rw [if_pos k]
        intro z; exact absurd z (flt_ne (k := 2) (by decide) (by decide) (by have := nxA_le tp ha; omega))
    · rw [if_neg k]
      unfold fX4_readSlot_81 fX4_readSlot_91
      rw [e_r6, bs, e_g5, bs, e_wv rfl hi4, bs, t4']
      refine ⟨rv1, _, rfl, q1, ?_, fun _ => ⟨?_, rfl⟩⟩
      · dsimp only; rw [if_neg k]; exact q7
      · rw [t3, d5]
theorem c_slotN {n a s i : Nat} (h4 : n ≤ 400) (ht : TpR bt tp n) (h1 : rv 1 = nI n) (h2 : rv 2 = nI a) (ha : a ≤ n) (h7 : rv 7 = 0) (hs : StaF z F) (hz : z ≤ eo) (s3 : 3 ≤ s) (s13 : s < 13) (hi4 : i < 4) :
    ∃ rv' vs', fnX4_readSlot (EB eo rv bt vs F) eo po (nI s) (nI i) = some (EB eo rv' bt vs' F) ∧ SlR rv' vs vs' i n (nmF tp n a (slL s) (slM s)) := by
  refine c_slotG h4 ht h1 h2 ha h7 (nI_ne0 (by omega) (by omega)) (by rw [show (2 : Int32) = nI 2 from rfl, nI_eq (by omega) (by decide)]; omega) hi4 (fun rv1 => ?_)
  rw [c_isWithin (hs.eb hz) rfl s13, bs, if_neg (show ¬ nI s = 1 by rw [show (1 : Int32) = nI 1 from rfl, nI_eq (by omega) (by decide)]; omega)]
theorem c_slotS {n a i : Nat} (h4 : n ≤ 400) (ht : TpR bt tp n) (h1 : rv 1 = nI n) (h2 : rv 2 = nI a) (ha : a ≤ n) (h7 : rv 7 = 0) (hs : StaF z F) (hz : z ≤ eo) (h : PlF F po pi tm sr so qo tl) (hd : po + 19 ≤ eo ∨ eo + 3 ≤ po) (hr : LwR w pi tm sr so) (hv : Vld w) (hi4 : i < 4) :
    ∃ rv' vs', fnX4_readSlot (EB eo rv bt vs F) eo po (nI 1) (nI i) = some (EB eo rv' bt vs' F) ∧ SlR rv' vs vs' i n (nmF tp n a 0 (w 4 - 1)) := by
  refine c_slotG h4 ht h1 h2 ha h7 (by decide) (by decide) hi4 (fun rv1 => ?_)
  rw [c_isWithin (hs.eb hz) (s := 1) rfl (by decide), bs, if_pos (show nI 1 = 1 from rfl), bs, c_hasSpouse (h.eb hd) hr hv.c, bs]
  by_cases c : inI (rv1 5) 0 (w 4 - 1) = 0
  · rw [if_pos c]; split <;> rfl
  · rw [if_neg c]
    obtain ⟨k1, k2⟩ := spo_of hv c
    have := hv.p4 k2
    have e : ¬ inI (rv1 5) (slL 1) (slM 1) = 0 := by
      have e0 : slL 1 = 0 := rfl
      have e3 : slM 1 = nI 3 := rfl
      rw [e0, e3, inI_1 (by rw [k1]; exact nI_pos (by omega)) (by rw [k1, nI_ltI (by decide) (by omega)]; omega)]; decide
    rw [if_neg e]
theorem c_slotH {n a i : Nat} (h4 : n ≤ 400) (ht : TpR bt tp n) (h1 : rv 1 = nI n) (h2 : rv 2 = nI a) (ha : a ≤ n) (h7 : rv 7 = 0) (hs : StaF z F) (hz : z ≤ eo) (hi4 : i < 4) :
    ∃ rv' vs', fnX4_readSlot (EB eo rv bt vs F) eo po (nI 2) (nI i) = some (EB eo rv' bt vs' F) ∧ SlR rv' vs vs' i n (howF tp n a) := by
  obtain ⟨rv1, e1, ⟨t1, t2, t3, t4⟩, e2⟩ := c_token (eo := eo) (vs := vs) (f := F) h4 ht h1 h2 ha
  have q1 : rv1 1 = nI n := by rw [e2 1 (by decide) (by decide) (by decide) (by decide)]; exact h1
  have q7 : rv1 7 = 0 := by rw [e2 7 (by decide) (by decide) (by decide) (by decide)]; exact h7
  have hbn := (nxA_le tp ha).2
  unfold fnX4_readSlot fX4_readSlot_91
  rw [e_is, bs, if_neg (by decide), e1, bs, if_pos (by decide)]
  have e5 : ∀ rv1 : Nat → Int32, (EB eo rv1 bt vs F).2.1 5 = F.2.1 5 := fun _ => rfl
  have e6 : ∀ rv1 : Nat → Int32, (EB eo rv1 bt vs F).2.1 6 = F.2.1 6 := fun _ => rfl
  unfold fnX4_readHow fX4_readHow_27 fX4_readHow_54 fX4_readHow_63 howF
  rw [e_is, bs, e_g3, bs, t1, e5, e6]
  generalize nxA tp n a = b at *
  by_cases c : inI (hrV tp n b) 97 122 = 0
  · have k := tk_nolet c
    rw [if_neg k, bs, if_neg k, e_g4, bs, t2, c_blame, bs, bs, if_pos c]
    exact ⟨_, vs, rfl, by rw [up_n (by decide)]; exact q1, up_s, fun z => absurd z (flt_ne (k := 1) (by decide) (by decide) (by omega))⟩
  obtain ⟨d1, d2, d3⟩ := tk_let c
  rw [d3] at t3
  have hge := wdE_ge (tp := tp) hbn
  rw [d2, if_pos rfl, if_neg c]
  have i1 := wEq_iff (tp := tp) (l := wdSh) hbn wdSh_ok.1 wdSh_ok.2
  have i2 := wEq_iff (tp := tp) (l := wdAp) hbn wdAp_ok.1 wdAp_ok.2
  rcases c_isWord (rv := rv1) (bt := bt) (vs := vs) (tp := tp) hs.2.2.2.2.2.1 hz wdSh_ok.1 q1 h4 ht t2 t3 hge.2 hge.1 with ⟨k1, k2⟩ | ⟨k1, k2⟩
  · rw [k2, bs, if_neg one_0, e_r6, bs, e_wv rfl hi4, bs, bs, if_pos (i1.mp k1)]
    exact ⟨rv1, _, rfl, q1, q7, fun _ => ⟨t3, rfl⟩⟩
  rw [k2, bs, if_pos rfl, bs, if_pos rfl, if_neg (fun x => k1 (i1.mpr x))]
  rcases c_isWord (rv := rv1) (bt := bt) (vs := vs) (tp := tp) hs.2.2.2.2.2.2 hz wdAp_ok.1 q1 h4 ht t2 t3 hge.2 hge.1 with ⟨l1, l2⟩ | ⟨l1, l2⟩
  · rw [l2, bs, if_neg one_0, e_r6, bs, e_wv rfl hi4, bs, bs, if_pos (i2.mp l1)]
    exact ⟨rv1, _, rfl, q1, q7, fun _ => ⟨t3, rfl⟩⟩
  · rw [l2, bs, if_pos rfl, e_g4, bs, t2, c_blame, bs, bs, if_neg (fun x => l1 (i2.mpr x))]
    exact ⟨_, vs, rfl, by rw [up_n (by decide)]; exact q1, up_s, fun z => absurd z (flt_ne (k := 1) (by decide) (by decide) (by omega))⟩
theorem c_close {n a : Nat} (h4 : n ≤ 400) (ht : TpR bt tp n) (h1 : rv 1 = nI n) (h2 : rv 2 = nI a) (ha : a ≤ n) (h7 : rv 7 = 0) : ∃ rv', fnX4_readClose (EB eo rv bt vs F) eo = some (EB eo rv' bt vs F) ∧ rv' 1 = nI n ∧ rv' 7 = (enF tp n a).1 ∧ ((enF tp n a).1 = 0 → rv' 2 = nI (enF tp n a).2.1) := by
  obtain ⟨rv1, e1, ⟨t1, t2, t3, t4⟩, e2⟩ := c_token (eo := eo) (vs := vs) (f := F) h4 ht h1 h2 ha
  have q1 : rv1 1 = nI n := by rw [e2 1 (by decide) (by decide) (by decide) (by decide)]; exact h1
  have q7 : rv1 7 = 0 := by rw [e2 7 (by decide) (by decide) (by decide) (by decide)]; exact h7
  have hbn := (nxA_le tp ha).2
  unfold fnX4_readClose fX4_readClose_29 enF
  rw [e_is, bs, e_g7, bs, h7, if_pos rfl, e1, bs, e_g3, bs, t1]
  by_cases c : hrV tp n (nxA tp n a) = 59
  · obtain ⟨d1, d2, d3⟩ := tk_59.1 c
    rw [if_pos d2]
    simp only [if_pos c]
    exact ⟨rv1, rfl, q1, q7, fun _ => by rw [t3, d3]⟩
  · rw [if_neg (tk_59.2 c), e_g4, bs, t2, c_blame, bs]
    simp only [if_neg c]
    exact ⟨_, rfl, by rw [up_n (by decide)]; exact q1, up_s, fun z => absurd z (flt_ne (k := 1) (by decide) (by decide) (by omega))⟩
end SL
