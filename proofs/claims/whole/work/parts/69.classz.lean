/-! ===== words: the class compares signs, the reference counts them ===== -/
def encN (s : Nat → Nat) : Nat → Nat
  | 0 => 0
  | k + 1 => encN s k * 27 + s k
theorem encN_lt {s : Nat → Nat} : ∀ k, (∀ i, i < k → s i ≤ 26) → encN s k + 1 ≤ 27 ^ k
  | 0, _ => Nat.le_refl _
  | k + 1, h => by
    have h1 := encN_lt k (fun i hi => h i (by omega))
    have h2 := h k (by omega)
    show encN s k * 27 + s k + 1 ≤ 27 ^ (k + 1)
    rw [Nat.pow_succ]; omega
theorem enc_inj {s t : Nat → Nat} : ∀ k m, (∀ i, i < k → 1 ≤ s i ∧ s i ≤ 26) → (∀ i, i < m → 1 ≤ t i ∧ t i ≤ 26) → encN s k = encN t m → k = m ∧ ∀ i, i < k → s i = t i
  | 0, 0, _, _, _ => ⟨rfl, fun i hi => by omega⟩
  | 0, m + 1, _, ht, e => by
    have := ht m (by omega)
    have e : 0 = encN t m * 27 + t m := e
    omega
  | k + 1, 0, hs, _, e => by
    have := hs k (by omega)
    have e : encN s k * 27 + s k = 0 := e
    omega
  | k + 1, m + 1, hs, ht, e => by
    have h1 := hs k (by omega)
    have h2 := ht m (by omega)
    have e : encN s k * 27 + s k = encN t m * 27 + t m := e
    obtain ⟨a, b⟩ := enc_inj k m (fun i hi => hs i (by omega)) (fun i hi => ht i (by omega)) (by omega)
    refine ⟨by omega, fun i hi => ?_⟩
    by_cases c : i = k
    · subst c; subst a; omega
    · exact b i (by omega)
theorem ltR_in (tp : Nat → Int32) : ∀ r i j, i ≤ j → j < ltR tp r i → ¬ inI (tp j) 97 122 = 0
  | 0, i, j, h1, h2 => by have h2 : j < i := h2; omega
  | r + 1, i, j, h1, h2 => by
    unfold ltR at h2
    by_cases c : inI (tp i) 97 122 = 0
    · rw [if_pos c] at h2; omega
    · rw [if_neg c] at h2
      by_cases e : j = i
      · subst e; exact c
      · exact ltR_in tp r (i + 1) j (by omega) h2
theorem wv_neg (tp : Nat → Int32) : ∀ r i c, 8 ≤ c → wvR tp r i c (-1) = -1
  | 0, _, _, _ => rfl
  | r + 1, i, c, h => by
    unfold wvR
    by_cases d : inI (tp i) 97 122 = 0
    · rw [if_pos d]
    · rw [if_neg d, if_pos h]; exact wv_neg tp r (i + 1) (c + 1) (by omega)
/-- the letters from b on -/
def ltS (tp : Nat → Int32) (b i : Nat) : Nat := (tp (b + i)).toInt.toNat - 96
theorem ltS_in {tp : Nat → Int32} {b i : Nat} (h : ¬ inI (tp (b + i)) 97 122 = 0) : 1 ≤ ltS tp b i ∧ ltS tp b i ≤ 26 ∧ (tp (b + i)).toInt = ltS tp b i + 96 := by
  have := inI_of h
  have x : (97 : Int32).toInt = 97 := rfl
  have y : (122 : Int32).toInt = 122 := rfl
  unfold ltS; omega
theorem wv_ok {tp : Nat → Int32} {b : Nat} : ∀ (r i c : Nat) (v : Int64), i = b + c → c ≤ 8 → (∀ j, j < c → 1 ≤ ltS tp b j ∧ ltS tp b j ≤ 26) → v.toInt = encN (ltS tp b) c → (ltR tp r i - b ≤ 8 → (wvR tp r i c v).toInt = encN (ltS tp b) (ltR tp r i - b)) ∧ (8 < ltR tp r i - b → wvR tp r i c v = -1)
  | 0, i, c, v, hi, hc, _, hv => by
    show (i - b ≤ 8 → v.toInt = encN (ltS tp b) (i - b)) ∧ (8 < i - b → v = -1)
    rw [show i - b = c by omega]
    exact ⟨fun _ => hv, fun z => by omega⟩
  | r + 1, i, c, v, hi, hc, hd, hv => by
    unfold ltR wvR
    by_cases d : inI (tp i) 97 122 = 0
    · rw [if_pos d, if_pos d, show i - b = c by omega]
      exact ⟨fun _ => hv, fun z => by omega⟩
    rw [if_neg d, if_neg d]
    have hge := ltR_le tp r (i + 1)
    by_cases e : 8 ≤ c
    · rw [if_pos e]
      exact ⟨fun z => by omega, fun _ => wv_neg tp r (i + 1) (c + 1) (by omega)⟩
    rw [if_neg e]
    rw [hi] at d
    obtain ⟨d1, d2, d3⟩ := ltS_in d
    have hb := encN_lt (s := ltS tp b) c (fun j hj => (hd j hj).2)
    have hp : (27 : Nat) ^ c ≤ 27 ^ 7 := Nat.pow_le_pow_right (by decide) (by omega)
    have hp7 : (27 : Nat) ^ 7 = 10460353203 := rfl
    have x27 : (27 : Int64).toInt = 27 := rfl
    have x96 : (96 : Int64).toInt = 96 := rfl
    have m1 : (v * 27).toInt = v.toInt * 27 := by rw [i64_mul (by rw [x27]; omega) (by rw [x27]; omega), x27]
    have m2 : (tp i).toInt64.toInt = ltS tp b c + 96 := by rw [i64_of, hi]; exact d3
    have m3 : (v * 27 + (tp i).toInt64).toInt = v.toInt * 27 + (ltS tp b c + 96) := by rw [i64_add (by rw [m1, m2]; omega) (by rw [m1, m2]; omega), m1, m2]
    refine wv_ok r (i + 1) (c + 1) _ (by omega) (by omega) (fun j hj => ?_) ?_
    · by_cases q : j = c
      · subst q; exact ⟨d1, d2⟩
      · exact hd j (by omega)
    · rw [i64_sub (by rw [m3, x96]; omega) (by rw [m3, x96]; omega), m3, x96]
      show _ = ((encN (ltS tp b) c * 27 + ltS tp b c : Nat) : Int)
      omega
/-- the signs from b up to e are these -/
def wEq (tp : Nat → Int32) (b e : Nat) (l : List Nat) : Prop := l.length = e - b ∧ ∀ i, i < l.length → tp (b + i) = nI (l.getD i 0)
def encL (l : List Nat) : Nat := encN (fun i => l.getD i 0 - 96) l.length
def okL (l : List Nat) : Prop := l.length ≤ 8 ∧ ∀ i, i < l.length → 97 ≤ l.getD i 0 ∧ l.getD i 0 ≤ 122
theorem encN_cg {s t : Nat → Nat} : ∀ k, (∀ i, i < k → s i = t i) → encN s k = encN t k
  | 0, _ => rfl
  | k + 1, h => by
    show encN s k * 27 + s k = encN t k * 27 + t k
    rw [encN_cg k (fun i hi => h i (by omega)), h k (by omega)]
theorem wEq_iff {tp : Nat → Int32} {n b : Nat} {l : List Nat} {K : Int64} (hb : b ≤ n) (hl : okL l) (hK : K.toInt = encL l) : wEq tp b (wdE tp n b) l ↔ wdV tp n b = K := by
  have key := wv_ok (tp := tp) (b := b) (n - b) b 0 0 (by omega) (by omega) (fun j hj => by omega) rfl
  have hin := fun j h1 h2 => ltS_in (tp := tp) (b := b) (i := j) (ltR_in tp (n - b) b (b + j) h1 h2)
  have hge := ltR_le tp (n - b) b
  have e0 : wdE tp n b = ltR tp (n - b) b := rfl
  have e1 : wdV tp n b = wvR tp (n - b) b 0 0 := rfl
  rw [e0, e1]
  constructor
  · intro h
    have h8 : ltR tp (n - b) b - b ≤ 8 := by rw [← h.1]; exact hl.1
    rw [i64_eq, key.1 h8, hK]
    unfold encL
    rw [← h.1]
    congr 1
    apply encN_cg
    intro i hi
    unfold ltS
    have := hl.2 i hi
    rw [h.2 i hi, nI_toInt (by omega)]; omega
  · intro h
    by_cases h8 : ltR tp (n - b) b - b ≤ 8
    · have q := key.1 h8
      rw [h, hK] at q
      have q : encL l = encN (ltS tp b) (ltR tp (n - b) b - b) := by omega
      unfold encL at q
      obtain ⟨a1, a2⟩ := enc_inj _ _ (fun i hi => by have := hl.2 i hi; omega) (fun i hi => by have := hin i (by omega) (by omega); omega) q
      refine ⟨a1, fun i hi => ?_⟩
      have x1 := a2 i hi
      have x2 := hin i (by omega) (by omega)
      have x3 := hl.2 i hi
      have x1 : l.getD i 0 - 96 = ltS tp b i := x1
      rw [i32_eq, nI_toInt (by omega), x2.2.2]; omega
    · have q := key.2 (by omega)
      rw [h] at q
      rw [q] at hK
      have : (-1 : Int64).toInt = -1 := rfl
      omega
/-- the verbs' words as the reference counts them -/
def vbV : Nat → Int64 := fun k => match k with
  | 0 => 50801
  | 1 => 10209515
  | 2 => 16906
  | 3 => 316163
  | 4 => 6570631
  | 5 => 1831504
  | 6 => 247664
  | 7 => 85447
  | 8 => 261338243
  | 9 => 11817
  | 10 => 209220123
  | 11 => 2690359
  | 12 => 70309
  | _ => 99857059490
theorem vbV_enc : ∀ k, k < 14 → (vbV k).toInt = encL (vbW k) := by decide +kernel
theorem vbW_ok : ∀ k, k < 14 → (vbW k).length ≤ 8 ∧ ∀ i, i < (vbW k).length → 97 ≤ (vbW k).getD i 0 ∧ (vbW k).getD i 0 ≤ 122 := by decide +kernel
theorem wdSh_ok : okL wdSh ∧ (276913705 : Int64).toInt = encL wdSh := by unfold okL; decide +kernel
theorem wdAp_ok : okL wdAp ∧ (847604 : Int64).toInt = encL wdAp := by unfold okL; decide +kernel
theorem chr_ok : ∀ c, c < 128 → pz_nc (((nI c &&& 255).toUInt32 % 65536).toInt32) = some (nI c) ∧ pz_nc (nI c) = some (nI c) := by decide +kernel
/-- what a text in the heap says -/
theorem txt_of {z a : Nat} {l : List Nat} {f : pz_H} (h : txtK (fun a => if a < z then f.1 a else none) a l) (hl : l.length < 2 ^ 31) (hc : ∀ i, i < l.length → l.getD i 0 < 128) : fnJ0_length_8abf5 f a = some (nI l.length) ∧ ∀ i, i < l.length → fnJ0_charAt_5068e f a (nI i) = some (nI (l.getD i 0)) := by
  obtain ⟨b, h1, h2⟩ := h
  obtain ⟨h3, h4⟩ := sta_lt h1
  obtain ⟨r1, r2, r3⟩ := rwK_of h2 hl
  have i1 : pz_is f a 101 = some () := is_of h3
  have g0 : pz_gR f a 101 0 = some b := gR_of h3 rfl
  have g1 : pz_gI f a 101 1 = some 0 := gI_of h3 rfl
  have n0 : ¬ (1 : Int32) = 0 := by decide
  constructor
  · unfold fnJ0_length_8abf5 fnJ0_coder_7d493 fJ0_coder_7d493_14
    rw [i1, bs, g0, bs, r2, bs, bs, if_neg n0, g1, bs, show pz_nb 0 = some 0 from by decide, bs, show (0 : Int32) &&& 31 = 0 from by decide, Int32.shiftRight_zero]
  · intro i hi
    unfold fnJ0_charAt_5068e fnJ0_isLatin1_aae02 fJ0_isLatin1_aae02_18 fnJ1_charAt_3b067 fnJ0_checkIndex_df160 fnJ3_checkIndex_8e157
    rw [i1, bs, bs, if_neg n0, g1, bs, if_pos rfl, pb1, bs, if_neg n0, g0, bs, r2, bs, if_neg (nI_pos (by omega)), if_pos (by rw [nI_ltI (by omega) (by omega)]; exact hi), bs, bs, r1 _ i rfl hi, bs, (chr_ok _ (hc i hi)).1, bs, (chr_ok _ (hc i hi)).2]
section CZ
variable {eo z : Nat} {rv bt vs tp : Nat → Int32} {f : pz_H}
theorem c_isWord_loop {a n b e : Nat} {l : List Nat} (hL : fnJ0_length_8abf5 (EB eo rv bt vs f) a = some (nI l.length)) (hC : ∀ i, i < l.length → fnJ0_charAt_5068e (EB eo rv bt vs f) a (nI i) = some (nI (l.getD i 0))) (h1 : rv 1 = nI n) (h4 : n ≤ 400) (ht : TpR bt tp n) (hb : rv 4 = nI b) (he : e ≤ n) (hle : l.length = e - b) (hbe : b ≤ e) : ∀ (N i : Nat), i ≤ l.length → l.length - i < N → (∀ j, j < i → tp (b + j) = nI (l.getD j 0)) → (wEq tp b e l ∧ fX4_isWord_20 (EB eo rv bt vs f) N eo a (nI i) = some 1) ∨ (¬ wEq tp b e l ∧ fX4_isWord_20 (EB eo rv bt vs f) N eo a (nI i) = some 0) := by
  intro N
  induction N with
  | zero => intro i _ h; omega
  | succ N ih =>
    intro i hi hN hj
    show (_ ∧ fX4_isWord_20b _ _ _ _ _ = _) ∨ (_ ∧ fX4_isWord_20b _ _ _ _ _ = _)
    unfold fX4_isWord_20b
    rw [hL, bs]
    by_cases c : i = l.length
    · left
      rw [if_pos (by rw [c]; exact Int32.le_refl _), pb1]
      exact ⟨⟨hle, fun j h => hj j (by omega)⟩, rfl⟩
    have hil : i < l.length := by omega
    rw [if_neg (by rw [nI_leI (by omega) (by omega)]; omega), e_g4, bs, hb, nI_add, c_byteAt h1 h4 ht (by omega), bs, hC i hil, bs]
    by_cases d : tp (b + i) = nI (l.getD i 0)
    · rw [if_pos d, nI_1]
      refine ih (i + 1) (by omega) (by omega) (fun j h => ?_)
      by_cases q : j = i
      · subst q; exact d
      · exact hj j (by omega)
    · right
      rw [if_neg d, pb0]
      exact ⟨fun q => d (q.2 i hil), rfl⟩
theorem c_isWord {a n b e : Nat} {l : List Nat} (hx : txtK (fun a => if a < z then f.1 a else none) a l) (hz : z ≤ eo) (hl : okL l) (h1 : rv 1 = nI n) (h4 : n ≤ 400) (ht : TpR bt tp n) (hb : rv 4 = nI b) (h2 : rv 2 = nI e) (he : e ≤ n) (hbe : b ≤ e) : (wEq tp b e l ∧ fnX4_isWord (EB eo rv bt vs f) eo a = some 1) ∨ (¬ wEq tp b e l ∧ fnX4_isWord (EB eo rv bt vs f) eo a = some 0) := by
  have hx' : txtK (fun a => if a < z then (EB eo rv bt vs f).1 a else none) a l := by
    have e : (fun a => if a < z then (EB eo rv bt vs f).1 a else none) = fun a => if a < z then f.1 a else none := by
      funext a
      by_cases q : a < z
      · rw [if_pos q, if_pos q]; unfold EB; rw [BU_ne (by omega)]
      · rw [if_neg q, if_neg q]
    rw [e]; exact hx
  have h8 := hl.1
  obtain ⟨hL, hC⟩ := txt_of hx' (by omega) (fun i hi => by have := hl.2 i hi; omega)
  unfold fnX4_isWord
  rw [e_is, bs, hL, bs, e_g2, bs, e_g4, bs, h2, hb, nI_sub hbe]
  by_cases c : l.length = e - b
  · rw [if_pos (by rw [c])]
    exact c_isWord_loop hL hC h1 h4 ht hb he c hbe pz_F 0 (by omega) (by unfold pz_F; omega) (fun j hj => by omega)
  · rw [if_neg (by rw [nI_eq (by omega) (by omega)]; exact c), pb0]
    exact Or.inr ⟨fun q => c q.1, rfl⟩
theorem c_verb_loop {n b : Nat} {va : Nat → Option Nat} (hva : (fun a => if a < z then f.1 a else none) (f.2.1 4) = some (.inr (11, 14, .inr (.inr va)))) (hvk : ∀ k, k < 14 → ∃ v, va k = some v ∧ vbK (fun a => if a < z then f.1 a else none) v k) (hz : z ≤ eo) (h1 : rv 1 = nI n) (h4 : n ≤ 400) (ht : TpR bt tp n) (hb : rv 4 = nI b) (hbn : b ≤ n) (h2 : rv 2 = nI (wdE tp n b)) : ∀ (N i : Nat), i ≤ 14 → 14 - i < N → (∀ j, j < i → ¬ wdV tp n b = vbV j) → (∃ k v, k < 14 ∧ wdV tp n b = vbV k ∧ fX4_verbHere_2 (EB eo rv bt vs f) N eo (nI i) = some (some v) ∧ vbK (fun a => if a < z then f.1 a else none) v k) ∨ ((∀ k, k < 14 → ¬ wdV tp n b = vbV k) ∧ fX4_verbHere_2 (EB eo rv bt vs f) N eo (nI i) = some none) := by
  obtain ⟨s3, s4⟩ := sta_lt hva
  have hge := wdE_ge (tp := tp) hbn
  have s5 : (EB eo rv bt vs f).1 (f.2.1 4) = some (.inr (11, 14, .inr (.inr va))) := by unfold EB; rw [BU_ne (by omega)]; exact s3
  intro N
  induction N with
  | zero => intro i _ h; omega
  | succ N ih =>
    intro i hi hN hj
    show (∃ k v, _ ∧ _ ∧ fX4_verbHere_2b _ _ _ _ = _ ∧ _) ∨ (_ ∧ fX4_verbHere_2b _ _ _ _ = _)
    unfold fX4_verbHere_2b
    have e0 : (EB eo rv bt vs f).2.1 4 = f.2.1 4 := rfl
    have ln : pz_ln (EB eo rv bt vs f) (f.2.1 4) 11 = some (nI 14) := by unfold pz_ln; rw [s5]; rfl
    rw [e0, ln, bs]
    by_cases c : i = 14
    · right
      rw [if_pos (by rw [c]; exact Int32.le_refl _)]
      exact ⟨fun k hk => hj k (by omega), rfl⟩
    obtain ⟨v, v1, v2⟩ := hvk i (by omega)
    obtain ⟨s, w1, w2⟩ := id v2
    obtain ⟨w3, w4⟩ := sta_lt w1
    have w5 : (EB eo rv bt vs f).1 v = f.1 v := by unfold EB; rw [BU_ne (by omega)]
    have w6 : pz_gR (EB eo rv bt vs f) v 100 0 = some s := gR_of (by rw [w5]; exact w3) rfl
    rw [if_neg (by rw [nI_leI (by decide) (by omega)]; omega), aR_of s5 rfl (show i < 14 by omega) (by decide), v1, bs, w6, bs]
    have ok : okL (vbW i) := vbW_ok i (by omega)
    have iff := wEq_iff (tp := tp) (l := vbW i) hbn ok (vbV_enc i (by omega))
    rcases c_isWord (rv := rv) (bt := bt) (vs := vs) (tp := tp) w2 hz ok h1 h4 ht hb h2 hge.2 hge.1 with ⟨q1, q2⟩ | ⟨q1, q2⟩
    · left
      rw [q2, bs, if_neg one_0, bs]
      exact ⟨i, v, by omega, iff.mp q1, rfl, v2⟩
    · rw [q2, bs, if_pos rfl, nI_1]
      refine ih (i + 1) (by omega) (by omega) (fun j h => ?_)
      by_cases q : j = i
      · subst q; exact fun x => q1 (iff.mpr x)
      · exact hj j (by omega)
theorem c_verbHere {n b : Nat} (hs : StaF z f) (hz : z ≤ eo) (h1 : rv 1 = nI n) (h4 : n ≤ 400) (ht : TpR bt tp n) (hb : rv 4 = nI b) (hbn : b ≤ n) (h2 : rv 2 = nI (wdE tp n b)) : (∃ k v, k < 14 ∧ wdV tp n b = vbV k ∧ fnX4_verbHere (EB eo rv bt vs f) eo = some (some v) ∧ vbK (fun a => if a < z then f.1 a else none) v k) ∨ ((∀ k, k < 14 → ¬ wdV tp n b = vbV k) ∧ fnX4_verbHere (EB eo rv bt vs f) eo = some none) := by
  obtain ⟨va, v1, v2⟩ := hs.2.2.2.2.1
  unfold fnX4_verbHere
  rw [e_is, bs]
  exact c_verb_loop v1 v2 hz h1 h4 ht hb hbn h2 pz_F 0 (by omega) (by unfold pz_F; omega) (fun j hj => by omega)
end CZ
