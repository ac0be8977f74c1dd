/-! ===== the class's reader: any statement, all statements ===== -/
theorem and255 (x : Int32) : ¬ x &&& 255 = -1 := by
  intro h
  have h1 := congrArg (fun y : Int32 => y.toBitVec.toNat) h
  have h2 : (x &&& 255).toBitVec.toNat = x.toBitVec.toNat &&& 255 := rfl
  have h3 : (-1 : Int32).toBitVec.toNat = 4294967295 := rfl
  have h4 : x.toBitVec.toNat &&& 255 ≤ 255 := Nat.and_le_right
  have h1 : (x &&& 255).toBitVec.toNat = (-1 : Int32).toBitVec.toNat := h1
  omega
theorem stmB_none {tp w : Nat → Int32} {n b e : Nat} {v : Int64} (h : ∀ k, k < 14 → ¬ v = vbV k) : stmB tp n b w v e = (flt 1 b, e, w) := by
  have h0 : ¬ v = 50801 := h 0 (by decide)
  have h1 : ¬ v = 10209515 := h 1 (by decide)
  have h2 : ¬ v = 16906 := h 2 (by decide)
  have h3 : ¬ v = 316163 := h 3 (by decide)
  have h4 : ¬ v = 6570631 := h 4 (by decide)
  have h5 : ¬ v = 1831504 := h 5 (by decide)
  have h6 : ¬ v = 247664 := h 6 (by decide)
  have h7 : ¬ v = 85447 := h 7 (by decide)
  have h8 : ¬ v = 261338243 := h 8 (by decide)
  have h9 : ¬ v = 11817 := h 9 (by decide)
  have h10 : ¬ v = 209220123 := h 10 (by decide)
  have h11 : ¬ v = 2690359 := h 11 (by decide)
  have h12 : ¬ v = 70309 := h 12 (by decide)
  have h13 : ¬ v = 99857059490 := h 13 (by decide)
  have ht : trmV v = -1 := by
    unfold trmV
    rw [if_neg h9, if_neg h10, if_neg h11, if_neg h12, if_neg h13]
  unfold stmB
  rw [if_neg h0, if_neg h1, if_neg h2, if_neg h3, if_neg h4, if_neg h5, if_neg h6, if_neg h7, if_neg h8, ht, if_pos rfl]
section SB
variable {tp w : Nat → Int32} {n b e : Nat}
theorem stmB_0 : stmB tp n b w (vbV 0) e = bornF tp n e w := by
  unfold stmB
  rw [if_pos (show vbV 0 = 50801 from rfl)]
theorem stmB_1 : stmB tp n b w (vbV 1) e = srvF tp n e b w := by
  unfold stmB
  rw [if_neg (show ¬ vbV 1 = 50801 by decide), if_pos (show vbV 1 = 10209515 from rfl)]
theorem stmB_2 : stmB tp n b w (vbV 2) e = wedF tp n e b w := by
  unfold stmB
  rw [if_neg (show ¬ vbV 2 = 50801 by decide), if_neg (show ¬ vbV 2 = 10209515 by decide), if_pos (show vbV 2 = 16906 from rfl)]
theorem stmB_3 : stmB tp n b w (vbV 3) e = prtF tp n e b w := by
  unfold stmB
  rw [if_neg (show ¬ vbV 3 = 50801 by decide), if_neg (show ¬ vbV 3 = 10209515 by decide), if_neg (show ¬ vbV 3 = 16906 by decide), if_pos (show vbV 3 = 316163 from rfl)]
theorem stmB_4 : stmB tp n b w (vbV 4) e = livF tp n e b w := by
  unfold stmB
  rw [if_neg (show ¬ vbV 4 = 50801 by decide), if_neg (show ¬ vbV 4 = 10209515 by decide), if_neg (show ¬ vbV 4 = 16906 by decide), if_neg (show ¬ vbV 4 = 316163 by decide), if_pos (show vbV 4 = 6570631 from rfl)]
theorem stmB_5 : stmB tp n b w (vbV 5) e = ofsF tp n e b w 4 := by
  unfold stmB
  rw [if_neg (show ¬ vbV 5 = 50801 by decide), if_neg (show ¬ vbV 5 = 10209515 by decide), if_neg (show ¬ vbV 5 = 16906 by decide), if_neg (show ¬ vbV 5 = 316163 by decide), if_neg (show ¬ vbV 5 = 6570631 by decide), if_pos (show vbV 5 = 1831504 from rfl)]
theorem stmB_6 : stmB tp n b w (vbV 6) e = ofsF tp n e b w 5 := by
  unfold stmB
  rw [if_neg (show ¬ vbV 6 = 50801 by decide), if_neg (show ¬ vbV 6 = 10209515 by decide), if_neg (show ¬ vbV 6 = 16906 by decide), if_neg (show ¬ vbV 6 = 316163 by decide), if_neg (show ¬ vbV 6 = 6570631 by decide), if_neg (show ¬ vbV 6 = 1831504 by decide), if_pos (show vbV 6 = 247664 from rfl)]
theorem stmB_7 : stmB tp n b w (vbV 7) e = oneF tp n e b w 6 1799 := by
  unfold stmB
  rw [if_neg (show ¬ vbV 7 = 50801 by decide), if_neg (show ¬ vbV 7 = 10209515 by decide), if_neg (show ¬ vbV 7 = 16906 by decide), if_neg (show ¬ vbV 7 = 316163 by decide), if_neg (show ¬ vbV 7 = 6570631 by decide), if_neg (show ¬ vbV 7 = 1831504 by decide), if_neg (show ¬ vbV 7 = 247664 by decide), if_pos (show vbV 7 = 85447 from rfl)]
theorem stmB_8 : stmB tp n b w (vbV 8) e = oneF tp n e b w 0 1799 := by
  unfold stmB
  rw [if_neg (show ¬ vbV 8 = 50801 by decide), if_neg (show ¬ vbV 8 = 10209515 by decide), if_neg (show ¬ vbV 8 = 16906 by decide), if_neg (show ¬ vbV 8 = 316163 by decide), if_neg (show ¬ vbV 8 = 6570631 by decide), if_neg (show ¬ vbV 8 = 1831504 by decide), if_neg (show ¬ vbV 8 = 247664 by decide), if_neg (show ¬ vbV 8 = 85447 by decide), if_pos (show vbV 8 = 261338243 from rfl)]
theorem stmB_9 : stmB tp n b w (vbV 9) e = oneF tp n e b w 10 400 := by
  have e1 : trmV (vbV 9) = 10 := by decide
  have e2 : oneH 10 = 400 := by decide
  unfold stmB
  rw [if_neg (show ¬ vbV 9 = 50801 by decide), if_neg (show ¬ vbV 9 = 10209515 by decide), if_neg (show ¬ vbV 9 = 16906 by decide), if_neg (show ¬ vbV 9 = 316163 by decide), if_neg (show ¬ vbV 9 = 6570631 by decide), if_neg (show ¬ vbV 9 = 1831504 by decide), if_neg (show ¬ vbV 9 = 247664 by decide), if_neg (show ¬ vbV 9 = 85447 by decide), if_neg (show ¬ vbV 9 = 261338243 by decide), e1, if_neg (by decide), e2]
theorem stmB_10 : stmB tp n b w (vbV 10) e = oneF tp n e b w 11 1200 := by
  have e1 : trmV (vbV 10) = 11 := by decide
  have e2 : oneH 11 = 1200 := by decide
  unfold stmB
  rw [if_neg (show ¬ vbV 10 = 50801 by decide), if_neg (show ¬ vbV 10 = 10209515 by decide), if_neg (show ¬ vbV 10 = 16906 by decide), if_neg (show ¬ vbV 10 = 316163 by decide), if_neg (show ¬ vbV 10 = 6570631 by decide), if_neg (show ¬ vbV 10 = 1831504 by decide), if_neg (show ¬ vbV 10 = 247664 by decide), if_neg (show ¬ vbV 10 = 85447 by decide), if_neg (show ¬ vbV 10 = 261338243 by decide), e1, if_neg (by decide), e2]
theorem stmB_11 : stmB tp n b w (vbV 11) e = oneF tp n e b w 12 10 := by
  have e1 : trmV (vbV 11) = 12 := by decide
  have e2 : oneH 12 = 10 := by decide
  unfold stmB
  rw [if_neg (show ¬ vbV 11 = 50801 by decide), if_neg (show ¬ vbV 11 = 10209515 by decide), if_neg (show ¬ vbV 11 = 16906 by decide), if_neg (show ¬ vbV 11 = 316163 by decide), if_neg (show ¬ vbV 11 = 6570631 by decide), if_neg (show ¬ vbV 11 = 1831504 by decide), if_neg (show ¬ vbV 11 = 247664 by decide), if_neg (show ¬ vbV 11 = 85447 by decide), if_neg (show ¬ vbV 11 = 261338243 by decide), e1, if_neg (by decide), e2]
theorem stmB_12 : stmB tp n b w (vbV 12) e = oneF tp n e b w 13 30 := by
  have e1 : trmV (vbV 12) = 13 := by decide
  have e2 : oneH 13 = 30 := by decide
  unfold stmB
  rw [if_neg (show ¬ vbV 12 = 50801 by decide), if_neg (show ¬ vbV 12 = 10209515 by decide), if_neg (show ¬ vbV 12 = 16906 by decide), if_neg (show ¬ vbV 12 = 316163 by decide), if_neg (show ¬ vbV 12 = 6570631 by decide), if_neg (show ¬ vbV 12 = 1831504 by decide), if_neg (show ¬ vbV 12 = 247664 by decide), if_neg (show ¬ vbV 12 = 85447 by decide), if_neg (show ¬ vbV 12 = 261338243 by decide), e1, if_neg (by decide), e2]
theorem stmB_13 : stmB tp n b w (vbV 13) e = oneF tp n e b w 14 200 := by
  have e1 : trmV (vbV 13) = 14 := by decide
  have e2 : oneH 14 = 200 := by decide
  unfold stmB
  rw [if_neg (show ¬ vbV 13 = 50801 by decide), if_neg (show ¬ vbV 13 = 10209515 by decide), if_neg (show ¬ vbV 13 = 16906 by decide), if_neg (show ¬ vbV 13 = 316163 by decide), if_neg (show ¬ vbV 13 = 6570631 by decide), if_neg (show ¬ vbV 13 = 1831504 by decide), if_neg (show ¬ vbV 13 = 247664 by decide), if_neg (show ¬ vbV 13 = 85447 by decide), if_neg (show ¬ vbV 13 = 261338243 by decide), e1, if_neg (by decide), e2]
end SB
theorem tk_0 {tp : Nat → Int32} {n b : Nat} : (b < n → ¬ tkT tp n b = 0) ∧ (¬ b < n → tkT tp n b = 0) := by
  unfold tkT
  constructor
  · intro c; rw [if_pos c]; (repeat' split) <;> decide
  · intro c; rw [if_neg c]
section RA
variable {z eo po n : Nat} {w rv bt vs tp pi tm : Nat → Int32} {sr : Nat → Nat} {so qo tl : Nat → Nat → Int32} {F : pz_H}
theorem c_full0 (hC : CtS z eo po n bt tp F w pi tm sr so qo tl) {v k : Nat} (k14 : k < 14) (hk : vbK (fun a => if a < z then F.1 a else none) v k) (n1 : ¬ swM k = 1) (n2 : ¬ swM k = 2) : fnX8_isFull (EB eo rv bt vs F) v po = some 0 := by
  obtain ⟨⟨-, -, hs, hz1, hz2⟩, hd, h, hr, hv⟩ := id hC
  obtain ⟨v0, v1, -, -, -, vo, vw⟩ := vb_of (rv := rv) (bt := bt) (vs := vs) hs hz1 k14 hk
  unfold fnX8_isFull
  rw [v0, bs, vo, bs, vw, bs, if_neg n1, if_neg n2, pb0]
theorem c_full1 (hC : CtS z eo po n bt tp F w pi tm sr so qo tl) {v : Nat} (hk : vbK (fun a => if a < z then F.1 a else none) v 1) : fnX8_isFull (EB eo rv bt vs F) v po = some (if w 3 = 8 then 1 else 0) := by
  obtain ⟨⟨-, -, hs, hz1, hz2⟩, hd, h, hr, hv⟩ := id hC
  obtain ⟨v0, v1, -, -, -, vo, vw⟩ := vb_of (rv := rv) (bt := bt) (vs := vs) hs hz1 (by decide) hk
  unfold fnX8_isFull fX8_isFull_50
  have h8 := hv.1.1.2
  rw [v0, bs, vo, bs, vw, bs, if_pos (by decide), p_g5 (h.eb hd), bs, hr.1.1.2.2.2.1, hv.1.1.1, show (8 : Int32) = nI 8 from rfl]
  by_cases c : cS w = 8
  · rw [if_neg (by rw [nI_ltI (by omega) (by decide)]; omega), if_pos (by rw [c]), pb1]
  · rw [if_pos (by rw [nI_ltI (by omega) (by decide)]; omega), if_neg (by rw [nI_eq (by omega) (by decide)]; exact c), pb0]
theorem c_full2 (hC : CtS z eo po n bt tp F w pi tm sr so qo tl) {v : Nat} (hk : vbK (fun a => if a < z then F.1 a else none) v 2) : fnX8_isFull (EB eo rv bt vs F) v po = some (if w 4 = 4 then 1 else 0) := by
  obtain ⟨⟨-, -, hs, hz1, hz2⟩, hd, h, hr, hv⟩ := id hC
  obtain ⟨v0, v1, -, -, -, vo, vw⟩ := vb_of (rv := rv) (bt := bt) (vs := vs) hs hz1 (by decide) hk
  unfold fnX8_isFull fX8_isFull_64
  have h8 := hv.1.2.1.2
  rw [v0, bs, vo, bs, vw, bs, if_neg (by decide), if_pos (by decide), p_g8 (h.eb hd), bs, hr.1.1.2.2.2.2.2.1, hv.1.2.1.1, show (4 : Int32) = nI 4 from rfl]
  by_cases c : cP w = 4
  · rw [if_neg (by rw [nI_ltI (by omega) (by decide)]; omega), if_pos (by rw [c]), pb1]
  · rw [if_pos (by rw [nI_ltI (by omega) (by decide)]; omega), if_neg (by rw [nI_eq (by omega) (by decide)]; exact c), pb0]
theorem st_blame (hC : CtS z eo po n bt tp F w pi tm sr so qo tl) {k b e : Nat} (hk : 1 ≤ k) (hk8 : k < 8) (hb : b ≤ 400) (h1 : rv 1 = nI n) : StG po eo n bt tp F ((fnX4_blame (EB eo rv bt vs F) eo (nI k) (nI b)).bind fun x => some x) (flt (nI k) b, e, w) := by
  obtain ⟨-, -, h, hr, -⟩ := hC
  rw [c_blame, bs]
  exact ⟨va_up rv 7 (nI k + 8 * nI b), vs, pi, tm, sr, so, qo, tl, by rw [h.pb], by rw [up_n (by decide)]; exact h1, up_s, fun q => absurd q (flt_ne hk hk8 hb), hr⟩
theorem st_oneF (hC : CtS z eo po n bt tp F w pi tm sr so qo tl) {v a b N k s : Nat} {p hi : Int32} (hb : b ≤ 400) (k7' : 7 ≤ k) (k14 : k < 14) (s3 : 3 ≤ s) (s13 : s < 13) (hS : vbS k 0 = nI s) (hS1 : vbS k 1 = 0) (hS2 : vbS k 2 = 0) (hS3 : vbS k 3 = 0) (hp : vbO k = p) (hlo : slL s = 0) (hhi : slM s = hi) (hk : vbK (fun a => if a < z then F.1 a else none) v k) (h1 : rv 1 = nI n) (h2 : rv 2 = nI a) (ha : a ≤ n) (h7 : rv 7 = 0) : StG po eo n bt tp F (fX4_readStatement_51 (N + 6) (EB eo rv bt vs F) eo po (nI b) v (nI 0)) (oneF tp n a b w p hi) := by
  have key := st_one (vs := vs) (N := N) hC hb k7' k14 s3 s13 hS hS1 hS2 hS3 hk h1 h2 ha h7
  rw [hlo, hhi, hp] at key
  unfold oneF
  exact key
theorem st_stm (hC : CtS z eo po n bt tp F w pi tm sr so qo tl) {b : Nat} (hbn : b ≤ n) (hb : nxA tp n b = b) (hT : TkS rv tp n b) (h1 : rv 1 = nI n) (h7 : rv 7 = 0) : StG po eo n bt tp F (fnX4_readStatement (EB eo rv bt vs F) eo po) (stmF tp n b w) := by
  obtain ⟨⟨h4, ht, hs, hz1, hz2⟩, hd, h, hr, hv⟩ := id hC
  obtain ⟨t1, t2, t3, -⟩ := hT
  have hb4 : b ≤ 400 := by omega
  unfold fnX4_readStatement stmF
  rw [e_is, bs, e_g4, bs, t2, e_g3, bs, t1, hb]
  by_cases c : inI (hrV tp n b) 97 122 = 0
  · rw [if_neg (tk_nolet c), if_pos c]
    exact st_blame hC (k := 1) (by decide) (by decide) hb4 h1
  obtain ⟨d1, d2, d3⟩ := tk_let c
  rw [d3] at t3
  have he := (wdE_ge (tp := tp) hbn).2
  rw [d2, if_pos rfl, if_neg c]
  rcases c_verbHere (rv := rv) (bt := bt) (vs := vs) (tp := tp) hs hz1 h1 h4 ht t2 hbn t3 with ⟨k, v, k14, e1, e2, hk⟩ | ⟨e1, e2⟩
  · rw [e2, bs, e1]
    show StG po eo n bt tp F ((fnX8_isFull (EB eo rv bt vs F) v po).bind fun x2 => if x2 = 0 then fX4_readStatement_51 (3994 + 6) (EB eo rv bt vs F) eo po (nI b) v (nI 0) else (fnX4_blame (EB eo rv bt vs F) eo (nI 3) (nI b)).bind fun x3 => some x3) _
    match k, k14, hk with
    | 0, _, hk => rw [c_full0 hC (by decide) hk (by decide) (by decide), bs, if_pos rfl, stmB_0]; exact st_born hC hb4 hk h1 t3 he h7
    | 1, _, hk =>
      rw [c_full1 hC hk, bs, stmB_1]
      by_cases q : w 3 = 8
      · rw [if_pos q, if_neg one_0]; unfold srvF; rw [if_pos q]; exact st_blame hC (k := 3) (by decide) (by decide) hb4 h1
      · have h8 := hv.1.1
        have : cS w < 8 := by
          have : ¬ cS w = 8 := fun z => q (by rw [h8.1, z]; rfl)
          omega
        rw [if_neg q, if_pos rfl]; exact st_serve hC hb4 hk this h1 t3 he h7
    | 2, _, hk =>
      rw [c_full2 hC hk, bs, stmB_2]
      by_cases q : w 4 = 4
      · rw [if_pos q, if_neg one_0]; unfold wedF; rw [if_pos q]; exact st_blame hC (k := 3) (by decide) (by decide) hb4 h1
      · have h8 := hv.1.2.1
        have : cP w < 4 := by
          have : ¬ cP w = 4 := fun z => q (by rw [h8.1, z]; rfl)
          omega
        rw [if_neg q, if_pos rfl]; exact st_wed hC hb4 hk this h1 t3 he h7
    | 3, _, hk => rw [c_full0 hC (by decide) hk (by decide) (by decide), bs, if_pos rfl, stmB_3]; exact st_part hC hb4 hk h1 t3 he h7
    | 4, _, hk => rw [c_full0 hC (by decide) hk (by decide) (by decide), bs, if_pos rfl, stmB_4]; exact st_lives hC hb4 hk h1 t3 he h7
    | 5, _, hk => rw [c_full0 hC (by decide) hk (by decide) (by decide), bs, if_pos rfl, stmB_5]; exact st_claim hC hb4 hk h1 t3 he h7
    | 6, _, hk => rw [c_full0 hC (by decide) hk (by decide) (by decide), bs, if_pos rfl, stmB_6]; exact st_lost hC hb4 hk h1 t3 he h7
    | 7, _, hk => rw [c_full0 hC (by decide) hk (by decide) (by decide), bs, if_pos rfl, stmB_7]; exact st_oneF hC (s := 3) hb4 (by decide) (by decide) (by decide) (by decide) rfl rfl rfl rfl rfl rfl rfl hk h1 t3 he h7
    | 8, _, hk => rw [c_full0 hC (by decide) hk (by decide) (by decide), bs, if_pos rfl, stmB_8]; exact st_oneF hC (s := 3) hb4 (by decide) (by decide) (by decide) (by decide) rfl rfl rfl rfl rfl rfl rfl hk h1 t3 he h7
    | 9, _, hk => rw [c_full0 hC (by decide) hk (by decide) (by decide), bs, if_pos rfl, stmB_9]; exact st_oneF hC (s := 8) hb4 (by decide) (by decide) (by decide) (by decide) rfl rfl rfl rfl rfl rfl rfl hk h1 t3 he h7
    | 10, _, hk => rw [c_full0 hC (by decide) hk (by decide) (by decide), bs, if_pos rfl, stmB_10]; exact st_oneF hC (s := 9) hb4 (by decide) (by decide) (by decide) (by decide) rfl rfl rfl rfl rfl rfl rfl hk h1 t3 he h7
    | 11, _, hk => rw [c_full0 hC (by decide) hk (by decide) (by decide), bs, if_pos rfl, stmB_11]; exact st_oneF hC (s := 10) hb4 (by decide) (by decide) (by decide) (by decide) rfl rfl rfl rfl rfl rfl rfl hk h1 t3 he h7
    | 12, _, hk => rw [c_full0 hC (by decide) hk (by decide) (by decide), bs, if_pos rfl, stmB_12]; exact st_oneF hC (s := 11) hb4 (by decide) (by decide) (by decide) (by decide) rfl rfl rfl rfl rfl rfl rfl hk h1 t3 he h7
    | 13, _, hk => rw [c_full0 hC (by decide) hk (by decide) (by decide), bs, if_pos rfl, stmB_13]; exact st_oneF hC (s := 12) hb4 (by decide) (by decide) (by decide) (by decide) rfl rfl rfl rfl rfl rfl rfl hk h1 t3 he h7
  · rw [e2, bs, stmB_none e1]
    exact st_blame hC (k := 1) (by decide) (by decide) hb4 h1
theorem c_all_loop (h4 : n ≤ 400) (ht : TpR bt tp n) (hs : StaF z F) (hz1 : z ≤ eo) (hz2 : z ≤ po) (hd : po + 19 ≤ eo ∨ eo + 3 ≤ po) : ∀ (N r a c : Nat) (w rv vs pi tm : Nat → Int32) (sr : Nat → Nat) (so qo tl : Nat → Nat → Int32), a ≤ n → n < a + r → r + 1 < N → c ≤ a → Vld w → PlnR w pi tm sr so qo tl → TkS rv tp n (nxA tp n a) → rv 1 = nI n → rv 7 = 0 → ∃ rv' vs' pi' tm' sr' so' qo' tl', fX4_readAll_16 N (EB eo rv bt vs (PB po pi tm sr so qo tl F)) eo po (nI c) = some (nI (telL tp n r a w c).2.2, EB eo rv' bt vs' (PB po pi' tm' sr' so' qo' tl' F)) ∧ rv' 1 = nI n ∧ rv' 7 = (telL tp n r a w c).1 ∧ PlnR (telL tp n r a w c).2.1 pi' tm' sr' so' qo' tl' := by
  intro N
  induction N with
  | zero => intro r a c w rv vs pi tm sr so qo tl _ _ h; omega
  | succ N ih =>
    intro r a c w rv vs pi tm sr so qo tl ha hr hN hc hv hP hT h1 h7
    show ∃ rv' vs' pi' tm' sr' so' qo' tl', fX4_readAll_16b _ _ _ _ _ = _ ∧ _
    unfold fX4_readAll_16b fX4_readAll_48
    cases r with
    | zero => omega
    | succ r =>
      have hle := nxA_le tp ha
      have hid := nxA_id (tp := tp) ha
      unfold telL
      generalize nxA tp n a = b at *
      by_cases d1 : hrV tp n b = -1
      · have hb : ¬ b < n := by
          intro q; rw [hrV_in q, ← (ht b q).1] at d1; exact and255 _ d1
        rw [if_pos d1, e_g3, bs, hT.1, tk_0.2 hb, if_pos rfl]
        refine ⟨rv, vs, pi, tm, sr, so, qo, tl, ?_, h1, h7, hP⟩
        split <;> rfl
      have hb : b < n := by
        apply Classical.byContradiction; intro q; exact d1 (hrV_out q)
      rw [if_neg d1, if_neg (show ¬ (400 : Int32) ≤ nI c by rw [show (400 : Int32) = nI 400 from rfl, nI_leI (by decide) (by omega)]; omega), e_g3, bs, hT.1, if_neg (tk_0.1 hb), e_g7, bs, h7, if_pos rfl]
      have hC : CtS z eo po n bt tp (PB po pi tm sr so qo tl F) w pi tm sr so qo tl := ⟨⟨h4, ht, hs.pb hz2, hz1, hz2⟩, hd, PB_plf, hP, hv⟩
      obtain ⟨rv1, vs1, pi1, tm1, sr1, so1, qo1, tl1, e1, e2, e3, e4, e5⟩ := st_stm (rv := rv) (vs := vs) hC hle.2 hid hT h1 h7
      rw [e1, bs, PB_PB, nI_1]
      by_cases d2 : (stmF tp n b w).1 = 0
      · rw [if_pos d2]
        obtain ⟨b1, b2, b3⟩ := gd_stm hv h4 hle.2 d2
        exact ih r _ (c + 1) _ rv1 vs1 pi1 tm1 sr1 so1 qo1 tl1 b3 (by omega) (by omega) (by omega) b1 e5 (e4 d2) e2 (by rw [e3]; exact d2)
      · rw [if_neg d2]
        rw [stmF_no d2] at e5
        refine ⟨rv1, vs1, pi1, tm1, sr1, so1, qo1, tl1, ?_, e2, e3, e5⟩
        cases N with
        | zero => omega
        | succ N =>
          show fX4_readAll_16b _ _ _ _ _ = _
          unfold fX4_readAll_16b fX4_readAll_48
          rw [e_g3, bs, e_g7, bs, e3, if_neg d2]
          split
          · rfl
          · split <;> rfl
theorem c_readAll (h4 : n ≤ 400) (ht : TpR bt tp n) (hs : StaF z F) (hz1 : z ≤ eo) (hz2 : z ≤ po) (hd : po + 19 ≤ eo ∨ eo + 3 ≤ po) (hv : Vld w) (h : PlF F po pi tm sr so qo tl) (hP : PlnR w pi tm sr so qo tl) (h1 : rv 1 = nI n) : ∃ rv' vs' pi' tm' sr' so' qo' tl', fnX4_readAll (EB eo rv bt vs F) eo po = some (nI (telT tp n w).2.2, EB eo rv' bt vs' (PB po pi' tm' sr' so' qo' tl' F)) ∧ rv' 1 = nI n ∧ rv' 7 = (telT tp n w).1 ∧ PlnR (telT tp n w).2.1 pi' tm' sr' so' qo' tl' := by
  unfold fnX4_readAll telT
  rw [e_is, bs, e_w2, bs, e_w7, bs]
  obtain ⟨rv1, e1, e2, e3⟩ := c_token (eo := eo) (vs := vs) (f := F) (rv := va_up (va_up rv 2 0) 7 0) (a := 0) h4 ht (by rw [up_n (by decide), up_n (by decide)]; exact h1) (by rw [up_n (by decide), up_s]; rfl) (by omega)
  rw [e1, bs]
  have key := c_all_loop (eo := eo) (po := po) (F := F) h4 ht hs hz1 hz2 hd pz_F (n + 1) 0 0 w rv1 vs pi tm sr so qo tl (by omega) (by omega) (by unfold pz_F; omega) (by omega) hv hP e2 (by rw [e3 1 (by decide) (by decide) (by decide) (by decide), up_n (by decide), up_n (by decide)]; exact h1) (by rw [e3 7 (by decide) (by decide) (by decide) (by decide), up_s])
  rw [h.pb] at key
  exact key
end RA
