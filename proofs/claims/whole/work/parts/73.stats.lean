/-! ===== the class's reader: the statements ===== -/
section SX
variable {z eo po n : Nat} {w rv bt vs tp pi tm : Nat → Int32} {sr : Nat → Nat} {so qo tl : Nat → Nat → Int32} {F : pz_H}
theorem st_born (hC : CtS z eo po n bt tp F w pi tm sr so qo tl) {v a b N : Nat} (hb : b ≤ 400) (hk : vbK (fun a => if a < z then F.1 a else none) v 0) (h1 : rv 1 = nI n) (h2 : rv 2 = nI a) (ha : a ≤ n) (h7 : rv 7 = 0) : StG po eo n bt tp F (fX4_readStatement_51 (N + 6) (EB eo rv bt vs F) eo po (nI b) v (nI 0)) (bornF tp n a w) := by
  obtain ⟨⟨h4, ht, hs, hz1, hz2⟩, hd, h, hr, hv⟩ := id hC
  unfold bornF
  refine st_step (N := N + 4) (i := 0) (j := 1) (s := 3) hC rfl h7 (by decide) (sl_of hs hz1 (by decide) hk (by decide)) (nmF_ge ha).2 (c_slotN (s := 3) (i := 0) h4 ht h1 h2 ha h7 hs hz1 (by decide) (by decide) (by decide)) ?_
  intro g0 ha0 rv0 vs0 k01 k02 k07 ev0
  rw [st_skip (N := N + 4) (i := 1) (j := 2) rfl k07 (by decide) (sl_of hs hz1 (by decide) hk (by decide)), st_skip (N := N + 3) (i := 2) (j := 3) rfl k07 (by decide) (sl_of hs hz1 (by decide) hk (by decide)), st_skip (N := N + 2) (i := 3) (j := 4) rfl k07 (by decide) (sl_of hs hz1 (by decide) hk (by decide)), st_end (N := N + 1)]
  have x0 := show vs0 0 = _ by rw [ev0, upd_s]
  refine st_87 hC hb k01 k02 ha0 k07 (fun rq => ?_)
  rw [x0]
  exact pf_born hC hk _ _ _ _ rq
theorem st_serve (hC : CtS z eo po n bt tp F w pi tm sr so qo tl) {v a b N : Nat} (hb : b ≤ 400) (hk : vbK (fun a => if a < z then F.1 a else none) v 1) (h8 : cS w < 8) (h1 : rv 1 = nI n) (h2 : rv 2 = nI a) (ha : a ≤ n) (h7 : rv 7 = 0) : StG po eo n bt tp F (fX4_readStatement_51 (N + 6) (EB eo rv bt vs F) eo po (nI b) v (nI 0)) (srvF tp n a b w) := by
  obtain ⟨⟨h4, ht, hs, hz1, hz2⟩, hd, h, hr, hv⟩ := id hC
  unfold srvF
  rw [if_neg (show ¬ w 3 = 8 by rw [hv.1.1.1, show (8 : Int32) = nI 8 from rfl, nI_eq (by omega) (by decide)]; omega)]
  refine st_step (N := N + 4) (i := 0) (j := 1) (s := 3) hC rfl h7 (by decide) (sl_of hs hz1 (by decide) hk (by decide)) (nmF_ge ha).2 (c_slotN (s := 3) (i := 0) h4 ht h1 h2 ha h7 hs hz1 (by decide) (by decide) (by decide)) ?_
  intro g0 ha0 rv0 vs0 k01 k02 k07 ev0
  refine st_step (N := N + 3) (i := 1) (j := 2) (s := 3) hC rfl k07 (by decide) (sl_of hs hz1 (by decide) hk (by decide)) (nmF_ge ha0).2 (c_slotN (s := 3) (i := 1) h4 ht k01 k02 ha0 k07 hs hz1 (by decide) (by decide) (by decide)) ?_
  intro g1 ha1 rv1 vs1 k11 k12 k17 ev1
  refine st_step (N := N + 2) (i := 2) (j := 3) (s := 4) hC rfl k17 (by decide) (sl_of hs hz1 (by decide) hk (by decide)) (nmF_ge ha1).2 (c_slotN (s := 4) (i := 2) h4 ht k11 k12 ha1 k17 hs hz1 (by decide) (by decide) (by decide)) ?_
  intro g2 ha2 rv2 vs2 k21 k22 k27 ev2
  rw [st_skip (N := N + 2) (i := 3) (j := 4) rfl k27 (by decide) (sl_of hs hz1 (by decide) hk (by decide)), st_end (N := N + 1)]
  have x0 := show vs2 0 = _ by rw [ev2, upd_n (by decide), ev1, upd_n (by decide), ev0, upd_s]
  have x1 := show vs2 1 = _ by rw [ev2, upd_n (by decide), ev1, upd_s]
  have x2 := show vs2 2 = _ by rw [ev2, upd_s]
  refine st_87 hC hb k21 k22 ha2 k27 (fun rq => ?_)
  rw [x0, x1, x2]
  exact pf_serve hC hk h8 _ _ _ _ rq
theorem st_wed (hC : CtS z eo po n bt tp F w pi tm sr so qo tl) {v a b N : Nat} (hb : b ≤ 400) (hk : vbK (fun a => if a < z then F.1 a else none) v 2) (h8 : cP w < 4) (h1 : rv 1 = nI n) (h2 : rv 2 = nI a) (ha : a ≤ n) (h7 : rv 7 = 0) : StG po eo n bt tp F (fX4_readStatement_51 (N + 6) (EB eo rv bt vs F) eo po (nI b) v (nI 0)) (wedF tp n a b w) := by
  obtain ⟨⟨h4, ht, hs, hz1, hz2⟩, hd, h, hr, hv⟩ := id hC
  unfold wedF
  rw [if_neg (show ¬ w 4 = 4 by rw [hv.1.2.1.1, show (4 : Int32) = nI 4 from rfl, nI_eq (by omega) (by decide)]; omega)]
  refine st_step (N := N + 4) (i := 0) (j := 1) (s := 3) hC rfl h7 (by decide) (sl_of hs hz1 (by decide) hk (by decide)) (nmF_ge ha).2 (c_slotN (s := 3) (i := 0) h4 ht h1 h2 ha h7 hs hz1 (by decide) (by decide) (by decide)) ?_
  intro g0 ha0 rv0 vs0 k01 k02 k07 ev0
  refine st_step (N := N + 3) (i := 1) (j := 2) (s := 3) hC rfl k07 (by decide) (sl_of hs hz1 (by decide) hk (by decide)) (nmF_ge ha0).2 (c_slotN (s := 3) (i := 1) h4 ht k01 k02 ha0 k07 hs hz1 (by decide) (by decide) (by decide)) ?_
  intro g1 ha1 rv1 vs1 k11 k12 k17 ev1
  rw [st_skip (N := N + 3) (i := 2) (j := 3) rfl k17 (by decide) (sl_of hs hz1 (by decide) hk (by decide)), st_skip (N := N + 2) (i := 3) (j := 4) rfl k17 (by decide) (sl_of hs hz1 (by decide) hk (by decide)), st_end (N := N + 1)]
  have x0 := show vs1 0 = _ by rw [ev1, upd_n (by decide), ev0, upd_s]
  have x1 := show vs1 1 = _ by rw [ev1, upd_s]
  refine st_87 hC hb k11 k12 ha1 k17 (fun rq => ?_)
  rw [x0, x1]
  exact pf_wed hC hk h8 _ _ _ _ rq
theorem st_part (hC : CtS z eo po n bt tp F w pi tm sr so qo tl) {v a b N : Nat} (hb : b ≤ 400) (hk : vbK (fun a => if a < z then F.1 a else none) v 3) (h1 : rv 1 = nI n) (h2 : rv 2 = nI a) (ha : a ≤ n) (h7 : rv 7 = 0) : StG po eo n bt tp F (fX4_readStatement_51 (N + 6) (EB eo rv bt vs F) eo po (nI b) v (nI 0)) (prtF tp n a b w) := by
  obtain ⟨⟨h4, ht, hs, hz1, hz2⟩, hd, h, hr, hv⟩ := id hC
  unfold prtF
  refine st_step (N := N + 4) (i := 0) (j := 1) (s := 3) hC rfl h7 (by decide) (sl_of hs hz1 (by decide) hk (by decide)) (nmF_ge ha).2 (c_slotN (s := 3) (i := 0) h4 ht h1 h2 ha h7 hs hz1 (by decide) (by decide) (by decide)) ?_
  intro g0 ha0 rv0 vs0 k01 k02 k07 ev0
  refine st_step (N := N + 3) (i := 1) (j := 2) (s := 5) hC rfl k07 (by decide) (sl_of hs hz1 (by decide) hk (by decide)) (nmF_ge ha0).2 (c_slotN (s := 5) (i := 1) h4 ht k01 k02 ha0 k07 hs hz1 (by decide) (by decide) (by decide)) ?_
  intro g1 ha1 rv1 vs1 k11 k12 k17 ev1
  refine st_step (N := N + 2) (i := 2) (j := 3) (s := 2) hC rfl k17 (by decide) (sl_of hs hz1 (by decide) hk (by decide)) (howF_ge ha1).2 (c_slotH (i := 2) h4 ht k11 k12 ha1 k17 hs hz1 (by decide)) ?_
  intro g2 ha2 rv2 vs2 k21 k22 k27 ev2
  refine st_step (N := N + 1) (i := 3) (j := 4) (s := 5) hC rfl k27 (by decide) (sl_of hs hz1 (by decide) hk (by decide)) (nmF_ge ha2).2 (c_slotN (s := 5) (i := 3) h4 ht k21 k22 ha2 k27 hs hz1 (by decide) (by decide) (by decide)) ?_
  intro g3 ha3 rv3 vs3 k31 k32 k37 ev3
  rw [st_end (N := N + 1)]
  have x0 := show vs3 0 = _ by rw [ev3, upd_n (by decide), ev2, upd_n (by decide), ev1, upd_n (by decide), ev0, upd_s]
  have x1 := show vs3 1 = _ by rw [ev3, upd_n (by decide), ev2, upd_n (by decide), ev1, upd_s]
  have x2 := show vs3 2 = _ by rw [ev3, upd_n (by decide), ev2, upd_s]
  have x3 := show vs3 3 = _ by rw [ev3, upd_s]
  refine st_87 hC hb k31 k32 ha3 k37 (fun rq => ?_)
  rw [x0, x1, x2, x3]
  exact pf_part hC hk _ _ _ _ rq
theorem st_lives (hC : CtS z eo po n bt tp F w pi tm sr so qo tl) {v a b N : Nat} (hb : b ≤ 400) (hk : vbK (fun a => if a < z then F.1 a else none) v 4) (h1 : rv 1 = nI n) (h2 : rv 2 = nI a) (ha : a ≤ n) (h7 : rv 7 = 0) : StG po eo n bt tp F (fX4_readStatement_51 (N + 6) (EB eo rv bt vs F) eo po (nI b) v (nI 0)) (livF tp n a b w) := by
  obtain ⟨⟨h4, ht, hs, hz1, hz2⟩, hd, h, hr, hv⟩ := id hC
  unfold livF
  refine st_step (N := N + 4) (i := 0) (j := 1) (s := 6) hC rfl h7 (by decide) (sl_of hs hz1 (by decide) hk (by decide)) (nmF_ge ha).2 (c_slotN (s := 6) (i := 0) h4 ht h1 h2 ha h7 hs hz1 (by decide) (by decide) (by decide)) ?_
  intro g0 ha0 rv0 vs0 k01 k02 k07 ev0
  refine st_step (N := N + 3) (i := 1) (j := 2) (s := 7) hC rfl k07 (by decide) (sl_of hs hz1 (by decide) hk (by decide)) (nmF_ge ha0).2 (c_slotN (s := 7) (i := 1) h4 ht k01 k02 ha0 k07 hs hz1 (by decide) (by decide) (by decide)) ?_
  intro g1 ha1 rv1 vs1 k11 k12 k17 ev1
  rw [st_skip (N := N + 3) (i := 2) (j := 3) rfl k17 (by decide) (sl_of hs hz1 (by decide) hk (by decide)), st_skip (N := N + 2) (i := 3) (j := 4) rfl k17 (by decide) (sl_of hs hz1 (by decide) hk (by decide)), st_end (N := N + 1)]
  have x0 := show vs1 0 = _ by rw [ev1, upd_n (by decide), ev0, upd_s]
  have x1 := show vs1 1 = _ by rw [ev1, upd_s]
  refine st_87 hC hb k11 k12 ha1 k17 (fun rq => ?_)
  rw [x0, x1]
  exact pf_lives hC hk _ _ _ _ (nm_bd (tp := tp) (lo := 0) (hi := 100000) ha0 h4 g1) rq
theorem st_claim (hC : CtS z eo po n bt tp F w pi tm sr so qo tl) {v a b N : Nat} (hb : b ≤ 400) (hk : vbK (fun a => if a < z then F.1 a else none) v 5) (h1 : rv 1 = nI n) (h2 : rv 2 = nI a) (ha : a ≤ n) (h7 : rv 7 = 0) : StG po eo n bt tp F (fX4_readStatement_51 (N + 6) (EB eo rv bt vs F) eo po (nI b) v (nI 0)) (ofsF tp n a b w 4) := by
  obtain ⟨⟨h4, ht, hs, hz1, hz2⟩, hd, h, hr, hv⟩ := id hC
  unfold ofsF
  refine st_step (N := N + 4) (i := 0) (j := 1) (s := 1) hC rfl h7 (by decide) (sl_of hs hz1 (by decide) hk (by decide)) (nmF_ge ha).2 (c_slotS (i := 0) h4 ht h1 h2 ha h7 hs hz1 h hd hr.1 hv (by decide)) ?_
  intro g0 ha0 rv0 vs0 k01 k02 k07 ev0
  refine st_step (N := N + 3) (i := 1) (j := 2) (s := 3) hC rfl k07 (by decide) (sl_of hs hz1 (by decide) hk (by decide)) (nmF_ge ha0).2 (c_slotN (s := 3) (i := 1) h4 ht k01 k02 ha0 k07 hs hz1 (by decide) (by decide) (by decide)) ?_
  intro g1 ha1 rv1 vs1 k11 k12 k17 ev1
  rw [st_skip (N := N + 3) (i := 2) (j := 3) rfl k17 (by decide) (sl_of hs hz1 (by decide) hk (by decide)), st_skip (N := N + 2) (i := 3) (j := 4) rfl k17 (by decide) (sl_of hs hz1 (by decide) hk (by decide)), st_end (N := N + 1)]
  have x0 := show vs1 0 = _ by rw [ev1, upd_n (by decide), ev0, upd_s]
  have x1 := show vs1 1 = _ by rw [ev1, upd_s]
  refine st_87 hC hb k11 k12 ha1 k17 (fun rq => ?_)
  rw [x0, x1]
  exact pf_claim hC hk _ _ _ _ rq
theorem st_lost (hC : CtS z eo po n bt tp F w pi tm sr so qo tl) {v a b N : Nat} (hb : b ≤ 400) (hk : vbK (fun a => if a < z then F.1 a else none) v 6) (h1 : rv 1 = nI n) (h2 : rv 2 = nI a) (ha : a ≤ n) (h7 : rv 7 = 0) : StG po eo n bt tp F (fX4_readStatement_51 (N + 6) (EB eo rv bt vs F) eo po (nI b) v (nI 0)) (ofsF tp n a b w 5) := by
  obtain ⟨⟨h4, ht, hs, hz1, hz2⟩, hd, h, hr, hv⟩ := id hC
  unfold ofsF
  refine st_step (N := N + 4) (i := 0) (j := 1) (s := 1) hC rfl h7 (by decide) (sl_of hs hz1 (by decide) hk (by decide)) (nmF_ge ha).2 (c_slotS (i := 0) h4 ht h1 h2 ha h7 hs hz1 h hd hr.1 hv (by decide)) ?_
  intro g0 ha0 rv0 vs0 k01 k02 k07 ev0
  refine st_step (N := N + 3) (i := 1) (j := 2) (s := 3) hC rfl k07 (by decide) (sl_of hs hz1 (by decide) hk (by decide)) (nmF_ge ha0).2 (c_slotN (s := 3) (i := 1) h4 ht k01 k02 ha0 k07 hs hz1 (by decide) (by decide) (by decide)) ?_
  intro g1 ha1 rv1 vs1 k11 k12 k17 ev1
  rw [st_skip (N := N + 3) (i := 2) (j := 3) rfl k17 (by decide) (sl_of hs hz1 (by decide) hk (by decide)), st_skip (N := N + 2) (i := 3) (j := 4) rfl k17 (by decide) (sl_of hs hz1 (by decide) hk (by decide)), st_end (N := N + 1)]
  have x0 := show vs1 0 = _ by rw [ev1, upd_n (by decide), ev0, upd_s]
  have x1 := show vs1 1 = _ by rw [ev1, upd_s]
  refine st_87 hC hb k11 k12 ha1 k17 (fun rq => ?_)
  rw [x0, x1]
  exact pf_lost hC hk _ _ _ _ rq
theorem st_one (hC : CtS z eo po n bt tp F w pi tm sr so qo tl) {v a b N k s : Nat} (hb : b ≤ 400) (k7' : 7 ≤ k) (k14 : k < 14) (s3 : 3 ≤ s) (s13 : s < 13) (hS : vbS k 0 = nI s) (hS1 : vbS k 1 = 0) (hS2 : vbS k 2 = 0) (hS3 : vbS k 3 = 0) (hk : vbK (fun a => if a < z then F.1 a else none) v k) (h1 : rv 1 = nI n) (h2 : rv 2 = nI a) (ha : a ≤ n) (h7 : rv 7 = 0) : StG po eo n bt tp F (fX4_readStatement_51 (N + 6) (EB eo rv bt vs F) eo po (nI b) v (nI 0)) (nx (nmF tp n a (slL s) (slM s)) w fun a v => nx (enF tp n a) w fun a _ => if plc w (vbO k) 0 v = -1 then (flt 4 b, a, w) else (0, a, upd w (plc w (vbO k) 0 v).toNatClampNeg v)) := by
  obtain ⟨⟨h4, ht, hs, hz1, hz2⟩, hd, h, hr, hv⟩ := id hC
  refine st_step (N := N + 4) (i := 0) (j := 1) (s := s) hC rfl h7 (by decide) (by rw [sl_of hs hz1 k14 hk (by decide), hS]) (nmF_ge ha).2 (c_slotN (s := s) (i := 0) h4 ht h1 h2 ha h7 hs hz1 s3 s13 (by decide)) ?_
  intro g0 ha0 rv0 vs0 k01 k02 k07 ev0
  rw [st_skip (N := N + 4) (i := 1) (j := 2) rfl k07 (by decide) (by rw [sl_of hs hz1 k14 hk (by decide), hS1]), st_skip (N := N + 3) (i := 2) (j := 3) rfl k07 (by decide) (by rw [sl_of hs hz1 k14 hk (by decide), hS2]), st_skip (N := N + 2) (i := 3) (j := 4) rfl k07 (by decide) (by rw [sl_of hs hz1 k14 hk (by decide), hS3]), st_end (N := N + 1)]
  have x0 := show vs0 0 = _ by rw [ev0, upd_s]
  refine st_87 hC hb k01 k02 ha0 k07 (fun rq => ?_)
  rw [x0]
  exact pf_one hC k7' k14 hk _ _ _ _ rq
end SX
