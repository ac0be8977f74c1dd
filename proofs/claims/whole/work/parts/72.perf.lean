/-! ===== the class's reader: what each verb does ===== -/
section PF
variable {z eo po n : Nat} {w rv bt vs tp pi tm : Nat → Int32} {sr : Nat → Nat} {so qo tl : Nat → Nat → Int32} {F : pz_H}
theorem pf_born (hC : CtS z eo po n bt tp F w pi tm sr so qo tl) {v b : Nat} (hk : vbK (fun a => if a < z then F.1 a else none) v 0) (p2 p3 p4 p5 : Int32) (rv1 : Nat → Int32) : PfR po eo b bt vs F w rv1 (fnX8_perform (EB eo rv1 bt vs F) v po p2 p3 p4 p5) (fun a => (0, a, bgX p2 w)) := by
  obtain ⟨⟨-, -, hs, hz1, hz2⟩, hd, h, hr, hv⟩ := id hC
  obtain ⟨v0, v1, -, -, -, vo, vw⟩ := vb_of (rv := rv1) (bt := bt) (vs := vs) hs hz1 (by decide) hk
  unfold fnX8_perform
  rw [v0, bs, vo, bs, vw, bs, if_neg (by decide), if_neg (by decide), if_pos (by decide)]
  obtain ⟨pi', tm', e1, e2⟩ := c_anew (h.eb hd (rv := rv1) (bt := bt) (vs := vs)) (hs.eb hz1) hz2 hr.1.2.2.1 hr.2.2.2 p2 w
  rw [e1, bs, pb1, bs, EB_PB hd]
  exact Or.inr ⟨_, _, _, _, _, _, _, rfl, e2, fun _ => rfl⟩
theorem pf_serve (hC : CtS z eo po n bt tp F w pi tm sr so qo tl) {v b : Nat} (hk : vbK (fun a => if a < z then F.1 a else none) v 1) (h8 : cS w < 8) (f t p p5 : Int32) (rv1 : Nat → Int32) : PfR po eo b bt vs F w rv1 (fnX8_perform (EB eo rv1 bt vs F) v po f t p p5) (fun a => if t ≤ f then (flt 4 b, a, w) else if f < w 0 then (flt 4 b, a, w) else if 0 < svc w f t then (flt 4 b, a, w) else if w 1 = -1 then (0, a, srvW w f t p) else if t ≤ w 1 then (0, a, srvW w f t p) else (flt 4 b, a, w)) := by
  obtain ⟨⟨-, -, hs, hz1, hz2⟩, hd, h, hr, hv⟩ := id hC
  obtain ⟨v0, v1, -, -, -, vo, vw⟩ := vb_of (rv := rv1) (bt := bt) (vs := vs) hs hz1 (by decide) hk
  unfold fnX8_perform
  rw [v0, bs, vo, bs, vw, bs, if_pos (by decide)]
  rcases c_serve (h.eb hd (rv := rv1) (bt := bt) (vs := vs)) hr hv h8 f t p with ⟨e0, e1⟩ | ⟨e0, pi', sr', so', qo', e1, e2⟩
  · rw [e1, bs]; dsimp only; rw [pb0, bs]
    exact Or.inl ⟨rfl, fun a => by dsimp only; rw [svK_if, if_pos e0]⟩
  · rw [e1, bs, EB_PB hd]; dsimp only; rw [pb1, bs]
    exact Or.inr ⟨_, _, _, _, _, _, _, rfl, e2, fun a => by dsimp only; rw [svK_if, if_neg (by rw [e0]; decide)]⟩
theorem pf_wed (hC : CtS z eo po n bt tp F w pi tm sr so qo tl) {v b : Nat} (hk : vbK (fun a => if a < z then F.1 a else none) v 2) (h4 : cP w < 4) (q m p4 p5 : Int32) (rv1 : Nat → Int32) : PfR po eo b bt vs F w rv1 (fnX8_perform (EB eo rv1 bt vs F) v po q m p4 p5) (fun a => if m < q then (flt 4 b, a, w) else if m < w 0 then (flt 4 b, a, w) else if cP w = 0 then (0, a, wedX w q m) else if w (37 + 8 * (cP w - 1)) = -1 then (flt 4 b, a, w) else if w (37 + 8 * (cP w - 1)) ≤ m then (0, a, wedX w q m) else (flt 4 b, a, w)) := by
  obtain ⟨⟨-, -, hs, hz1, hz2⟩, hd, h, hr, hv⟩ := id hC
  obtain ⟨v0, v1, -, -, -, vo, vw⟩ := vb_of (rv := rv1) (bt := bt) (vs := vs) hs hz1 (by decide) hk
  unfold fnX8_perform
  rw [v0, bs, vo, bs, vw, bs, if_neg (by decide), if_pos (by decide)]
  rcases c_wed (h.eb hd (rv := rv1) (bt := bt) (vs := vs)) hr hv h4 q m with ⟨e0, e1⟩ | ⟨e0, pi', qo', e1, e2⟩
  · rw [e1, bs]; dsimp only; rw [pb0, bs]
    exact Or.inl ⟨rfl, fun a => by dsimp only; rw [wdK_if, if_pos e0]⟩
  · rw [e1, bs, EB_PB hd]; dsimp only; rw [pb1, bs]
    exact Or.inr ⟨_, _, _, _, _, _, _, rfl, e2, fun a => by dsimp only; rw [wdK_if, if_neg (by rw [e0]; decide)]⟩
theorem pf_part (hC : CtS z eo po n bt tp F w pi tm sr so qo tl) {v b : Nat} (hk : vbK (fun a => if a < z then F.1 a else none) v 3) (m p q s : Int32) (rv1 : Nat → Int32) : PfR po eo b bt vs F w rv1 (fnX8_perform (EB eo rv1 bt vs F) v po m p q s) (fun a => if cP w = 0 then (flt 4 b, a, w) else if w (37 + 8 * (cP w - 1)) = -1 then (if w (36 + 8 * (cP w - 1)) < m then (0, a, prtW w (cP w - 1) m p q s) else (flt 4 b, a, w)) else (flt 4 b, a, w)) := by
  obtain ⟨⟨-, -, hs, hz1, hz2⟩, hd, h, hr, hv⟩ := id hC
  obtain ⟨v0, v1, -, -, -, vo, vw⟩ := vb_of (rv := rv1) (bt := bt) (vs := vs) hs hz1 (by decide) hk
  unfold fnX8_perform
  rw [v0, bs, vo, bs, vw, bs, if_neg (by decide), if_neg (by decide), if_neg (by decide), if_pos (by decide)]
  rcases c_part (h.eb hd (rv := rv1) (bt := bt) (vs := vs)) hr hv m p q s with ⟨e0, e1⟩ | ⟨e0, pi', qo', e1, e2⟩
  · rw [e1, bs]; dsimp only; rw [pb0, bs]
    exact Or.inl ⟨rfl, fun a => by dsimp only; rw [ptK_if, if_pos e0]⟩
  · rw [e1, bs, EB_PB hd]; dsimp only; rw [pb1, bs]
    exact Or.inr ⟨_, _, _, _, _, _, _, rfl, e2, fun a => by dsimp only; rw [ptK_if, if_neg (by rw [e0]; decide)]⟩
theorem pf_lives (hC : CtS z eo po n bt tp F w pi tm sr so qo tl) {v b : Nat} (hk : vbK (fun a => if a < z then F.1 a else none) v 4) (y x p4 p5 : Int32) (hx : 0 ≤ x.toInt ∧ x.toInt ≤ 100000) (rv1 : Nat → Int32) : PfR po eo b bt vs F w rv1 (fnX8_perform (EB eo rv1 bt vs F) v po y x p4 p5) (fun a => if (lfS w y x (cY w)).2 = 0 then (flt 4 b, a, w) else if (lfS w y x (cY w)).1 = 10 then (flt 4 b, a, w) else (0, a, livW w (lfS w y x (cY w)).1 y x)) := by
  obtain ⟨⟨-, -, hs, hz1, hz2⟩, hd, h, hr, hv⟩ := id hC
  obtain ⟨v0, v1, -, -, -, vo, vw⟩ := vb_of (rv := rv1) (bt := bt) (vs := vs) hs hz1 (by decide) hk
  unfold fnX8_perform
  rw [v0, bs, vo, bs, vw, bs, if_neg (by decide), if_neg (by decide), if_neg (by decide), if_neg (by decide), if_pos (by decide), p_r9 (h.eb hd), bs]
  rcases c_tellYear (h.eb hd (rv := rv1) (bt := bt) (vs := vs)) hr hv (y := y) hx with ⟨e0, e1⟩ | ⟨e0, pi', tl', e1, e2⟩
  · rw [e1, bs]; dsimp only; rw [pb0, bs]
    exact Or.inl ⟨rfl, fun a => by dsimp only; rw [tyK_if, if_pos e0]⟩
  · rw [e1, bs, EB_PB hd]; dsimp only; rw [pb1, bs]
    exact Or.inr ⟨_, _, _, _, _, _, _, rfl, e2, fun a => by dsimp only; rw [tyK_if, if_neg (by rw [e0]; decide)]⟩
theorem pf_alt (hC : CtS z eo po n bt tp F w pi tm sr so qo tl) {b : Nat} (what k x : Int32) (rv1 : Nat → Int32) : PfR po eo b bt vs F w rv1 ((fnX3_alter (EB eo rv1 bt vs F) po what k x).bind fun y => (pz_b y.1).bind fun x => some (x, y.2)) (fun a => if plc w what k x = -1 then (flt 4 b, a, w) else (0, a, upd w (plc w what k x).toNatClampNeg x)) := by
  obtain ⟨⟨-, -, hs, hz1, hz2⟩, hd, h, hr, hv⟩ := id hC
  rcases c_alter (h.eb hd (rv := rv1) (bt := bt) (vs := vs)) (hs.eb hz1) hr hv what k x with ⟨e0, e1⟩ | ⟨e0, pi', tm', qo', e1, e2⟩
  · rw [e1, bs]; dsimp only; rw [pb0, bs]
    exact Or.inl ⟨rfl, fun a => by dsimp only; rw [if_pos e0]⟩
  · rw [e1, bs, EB_PB hd]; dsimp only; rw [pb1, bs]
    exact Or.inr ⟨_, _, _, _, _, _, _, rfl, e2, fun a => by dsimp only; rw [if_neg e0]⟩
theorem pf_claim (hC : CtS z eo po n bt tp F w pi tm sr so qo tl) {v b : Nat} (hk : vbK (fun a => if a < z then F.1 a else none) v 5) (k x p4 p5 : Int32) (rv1 : Nat → Int32) : PfR po eo b bt vs F w rv1 (fnX8_perform (EB eo rv1 bt vs F) v po k x p4 p5) (fun a => if plc w 4 k x = -1 then (flt 4 b, a, w) else (0, a, upd w (plc w 4 k x).toNatClampNeg x)) := by
  obtain ⟨⟨-, -, hs, hz1, hz2⟩, hd, h, hr, hv⟩ := id hC
  obtain ⟨v0, v1, -, -, -, vo, vw⟩ := vb_of (rv := rv1) (bt := bt) (vs := vs) hs hz1 (by decide) hk
  unfold fnX8_perform
  rw [v0, bs, vo, bs, vw, bs, if_neg (by decide), if_neg (by decide), if_neg (by decide), if_neg (by decide), if_neg (by decide), if_pos (by decide)]
  exact pf_alt hC 4 k x rv1
theorem pf_lost (hC : CtS z eo po n bt tp F w pi tm sr so qo tl) {v b : Nat} (hk : vbK (fun a => if a < z then F.1 a else none) v 6) (k x p4 p5 : Int32) (rv1 : Nat → Int32) : PfR po eo b bt vs F w rv1 (fnX8_perform (EB eo rv1 bt vs F) v po k x p4 p5) (fun a => if plc w 5 k x = -1 then (flt 4 b, a, w) else (0, a, upd w (plc w 5 k x).toNatClampNeg x)) := by
  obtain ⟨⟨-, -, hs, hz1, hz2⟩, hd, h, hr, hv⟩ := id hC
  obtain ⟨v0, v1, -, -, -, vo, vw⟩ := vb_of (rv := rv1) (bt := bt) (vs := vs) hs hz1 (by decide) hk
  unfold fnX8_perform
  rw [v0, bs, vo, bs, vw, bs, if_neg (by decide), if_neg (by decide), if_neg (by decide), if_neg (by decide), if_neg (by decide), if_neg (by decide), if_pos (by decide)]
  exact pf_alt hC 5 k x rv1
/-- the verbs of one number: what they change -/
def vbO : Nat → Int32 := fun k => match k with
  | 7 => 6
  | 8 => 0
  | 9 => 10
  | 10 => 11
  | 11 => 12
  | 12 => 13
  | _ => 14
theorem pf_one (hC : CtS z eo po n bt tp F w pi tm sr so qo tl) {v b k : Nat} (k7 : 7 ≤ k) (k14 : k < 14) (hk : vbK (fun a => if a < z then F.1 a else none) v k) (x p3 p4 p5 : Int32) (rv1 : Nat → Int32) : PfR po eo b bt vs F w rv1 (fnX8_perform (EB eo rv1 bt vs F) v po x p3 p4 p5) (fun a => if plc w (vbO k) 0 x = -1 then (flt 4 b, a, w) else (0, a, upd w (plc w (vbO k) 0 x).toNatClampNeg x)) := by
  obtain ⟨⟨-, -, hs, hz1, hz2⟩, hd, h, hr, hv⟩ := id hC
  obtain ⟨v0, v1, -, -, -, vo, vw⟩ := vb_of (rv := rv1) (bt := bt) (vs := vs) hs hz1 k14 hk
  unfold fnX8_perform
  rw [v0, bs, vo, bs, vw, bs, v1, bs]
  match k, k7, k14 with
  | 7, _, _ =>
    rw [if_neg (by decide), if_neg (by decide), if_neg (by decide), if_neg (by decide), if_neg (by decide), if_neg (by decide), if_neg (by decide), if_pos (by decide)]
    exact pf_alt hC 6 0 x rv1
  | 8, _, _ =>
    rw [if_neg (by decide), if_neg (by decide), if_neg (by decide), if_neg (by decide), if_neg (by decide), if_neg (by decide), if_neg (by decide), if_neg (by decide), if_pos (by decide)]
    exact pf_alt hC 0 0 x rv1
  | 9, _, _ =>
    rw [if_neg (by decide), if_neg (by decide), if_neg (by decide), if_neg (by decide), if_neg (by decide), if_neg (by decide), if_neg (by decide), if_neg (by decide), if_neg (by decide)]
    exact pf_alt hC 10 0 x rv1
  | 10, _, _ =>
    rw [if_neg (by decide), if_neg (by decide), if_neg (by decide), if_neg (by decide), if_neg (by decide), if_neg (by decide), if_neg (by decide), if_neg (by decide), if_neg (by decide)]
    exact pf_alt hC 11 0 x rv1
  | 11, _, _ =>
    rw [if_neg (by decide), if_neg (by decide), if_neg (by decide), if_neg (by decide), if_neg (by decide), if_neg (by decide), if_neg (by decide), if_neg (by decide), if_neg (by decide)]
    exact pf_alt hC 12 0 x rv1
  | 12, _, _ =>
    rw [if_neg (by decide), if_neg (by decide), if_neg (by decide), if_neg (by decide), if_neg (by decide), if_neg (by decide), if_neg (by decide), if_neg (by decide), if_neg (by decide)]
    exact pf_alt hC 13 0 x rv1
  | 13, _, _ =>
    rw [if_neg (by decide), if_neg (by decide), if_neg (by decide), if_neg (by decide), if_neg (by decide), if_neg (by decide), if_neg (by decide), if_neg (by decide), if_neg (by decide)]
    exact pf_alt hC 14 0 x rv1
end PF
