/-! ===== what holds between two calls of the law ===== -/
def LI (z xo : Nat) (f : pz_H) : Prop := ∃ lf n k ws iv ia la, XI f z xo (ia 0) lf n k (ia 4) ws ∧ HasB f (xo + 280) 12 (MC (xo + 280) iv ia la) ∧ (Vld (ia 0) ∧ CaOK iv (ia 0) la ∧ iv 14 = nI n ∧ iv 4 = nI k ∧ iv 15 = lf) ∧ (∀ i, i < k → Vld (ws i) ∧ ∀ j, j < 87 → ws i j = ia 1 (87 * i + j)) ∧ ∃ ov, f.1 (xo + 292) = some (.inr (1, 1, .inr (.inl ov)))
section STP
variable {f f1 : pz_H} {z xo n k : Nat} {lf : Int32} {ws : Nat → Nat → Int32} {iv iv' : Nat → Int32} {ia ia' : Nat → Nat → Int32} {la la' : Nat → Nat → Int64}
theorem LI.mk (hx : XI f1 z xo (ia 0) lf n k (ia 4) ws) (ho : ∃ ov, f1.1 (xo + 292) = some (.inr (1, 1, .inr (.inl ov)))) (hv : Vld (ia 0)) (hca : CaOK iv (ia 0) la) (h14 : iv 14 = nI n) (h4 : iv 4 = nI k) (h15 : iv 15 = lf) (hws : ∀ i, i < k → Vld (ws i) ∧ ∀ j, j < 87 → ws i j = ia 1 (87 * i + j)) : LI z xo (MH (xo + 280) iv ia la f1) := by
  refine ⟨lf, n, k, ws, iv, ia, la, hx.cg rfl (fun a ha => by unfold MH; rw [BU_ne (by omega)]), fun o ho => BU_at ho, ⟨hv, hca, h14, h4, h15⟩, hws, ?_⟩
  obtain ⟨ov, h⟩ := ho
  exact ⟨ov, by unfold MH; rw [BU_ne (by omega)]; exact h⟩
theorem out_ou (ho : ∃ ov, f.1 (xo + 292) = some (.inr (1, 1, .inr (.inl ov)))) (h : OuB f f1 xo 280) : ∃ ov, f1.1 (xo + 292) = some (.inr (1, 1, .inr (.inl ov))) := by
  obtain ⟨ov, q⟩ := ho
  exact ⟨ov, by rw [h.2 _ (by omega)]; exact q⟩
theorem ca_0 {w : Nat → Int32} {x : Int32} (h : CaOK iv w la) : CaOK (va_up iv 0 x) w la := h
/-- a read that lays its caches -/
theorem LI.lr (hx : XI f1 z xo (ia 0) lf n k (ia 4) ws) (ho : ∃ ov, f1.1 (xo + 292) = some (.inr (1, 1, .inr (.inl ov)))) (hv : Vld (ia 0)) (h14 : iv 14 = nI n) (h4 : iv 4 = nI k) (h15 : iv 15 = lf) (hws : ∀ i, i < k → Vld (ws i) ∧ ∀ j, j < 87 → ws i j = ia 1 (87 * i + j)) (hl : LR (ia 0) iv iv' la') : LI z xo (MH (xo + 280) iv' ia la' f1) :=
  LI.mk hx ho hv hl.2 (by rw [hl.1 14 (by decide) (by decide)]; exact h14) (by rw [hl.1 4 (by decide) (by decide)]; exact h4) (by rw [hl.1 15 (by decide) (by decide)]; exact h15) hws
theorem LI.up0 (hx : XI f1 z xo (ia 0) lf n k (ia 4) ws) (ho : ∃ ov, f1.1 (xo + 292) = some (.inr (1, 1, .inr (.inl ov)))) (hv : Vld (ia 0)) (hca : CaOK iv (ia 0) la) (h14 : iv 14 = nI n) (h4 : iv 4 = nI k) (h15 : iv 15 = lf) (hws : ∀ i, i < k → Vld (ws i) ∧ ∀ j, j < 87 → ws i j = ia 1 (87 * i + j)) (x : Int32) : LI z xo (MH (xo + 280) (va_up iv 0 x) ia la f1) :=
  LI.mk hx ho hv hca (by rw [up_n (by decide)]; exact h14) (by rw [up_n (by decide)]; exact h4) (by rw [up_n (by decide)]; exact h15) hws
theorem mh_ou (hm : HasB f (xo + 280) 12 (MC (xo + 280) iv ia la)) (h : OuB f f1 xo 280) : MH (xo + 280) iv ia la f1 = f1 := BU_self (hm.cg (h.sm (by omega)))
end STP
section STQ
variable {f : pz_H} {z xo : Nat}
theorem s_fault (h : LI z xo f) : ∃ r f2, fnX9_fault f xo = some r ∧ fnX10_fault f (xo + 280) = some (r, f2) ∧ LI z xo f2 := by
  obtain ⟨lf, n, k, ws, iv, ia, la, hx, hm, ⟨hv, hca, h14, h4, h15⟩, hws, ho⟩ := h
  have e := m_fault (mo := xo + 280) (iv := iv) (ia := ia) (la := la) (g := f)
  rw [mh_ou hm OuB.rf] at e
  exact ⟨_, _, by rw [x_fault hx, h15], e, LI.up0 hx ho hv hca h14 h4 h15 hws 0⟩
theorem s_count (h : LI z xo f) (p : Int32) : ∃ r f2, fnX9_count f xo p = some r ∧ fnX10_count f (xo + 280) p = some (r, f2) ∧ LI z xo f2 := by
  obtain ⟨lf, n, k, ws, iv, ia, la, hx, hm, ⟨hv, hca, h14, h4, h15⟩, hws, ho⟩ := h
  have e := m_count (mo := xo + 280) (iv := iv) (ia := ia) (la := la) (g := f) p
  rw [mh_ou hm OuB.rf] at e
  exact ⟨_, _, by rw [x_count hx hv, ← h14, ← h4], e, LI.up0 hx ho hv hca h14 h4 h15 hws 0⟩
theorem s_service (h : LI z xo f) (p q : Int32) : ∃ r f2, fnX9_service f xo p q = some r ∧ fnX10_service f (xo + 280) p q = some (r, f2) ∧ LI z xo f2 := by
  obtain ⟨lf, n, k, ws, iv, ia, la, hx, hm, ⟨hv, hca, h14, h4, h15⟩, hws, ho⟩ := h
  have e := m_service (mo := xo + 280) (iv := iv) (ia := ia) (la := la) (g := f) hv p q
  rw [mh_ou hm OuB.rf] at e
  exact ⟨_, _, x_service hx hv p q, e, LI.up0 hx ho hv hca h14 h4 h15 hws 0⟩
theorem s_benefit (h : LI z xo f) (p : Int32) : ∃ r f2, fnX9_benefit f xo p = some r ∧ fnX10_benefit f (xo + 280) p = some (r, f2) ∧ LI z xo f2 := by
  obtain ⟨lf, n, k, ws, iv, ia, la, hx, hm, ⟨hv, hca, h14, h4, h15⟩, hws, ho⟩ := h
  have e := m_benefit (mo := xo + 280) (iv := iv) (ia := ia) (la := la) (g := f) hv p
  rw [mh_ou hm OuB.rf] at e
  exact ⟨_, _, x_benefit hx hv p, e, LI.up0 hx ho hv hca h14 h4 h15 hws 0⟩
theorem s_share (h : LI z xo f) (p q : Int32) : ∃ r f2, fnX9_share f xo p q = some r ∧ fnX10_share f (xo + 280) p q = some (r, f2) ∧ LI z xo f2 := by
  obtain ⟨lf, n, k, ws, iv, ia, la, hx, hm, ⟨hv, hca, h14, h4, h15⟩, hws, ho⟩ := h
  have e := m_share (mo := xo + 280) (iv := iv) (ia := ia) (la := la) (g := f) hv p q
  rw [mh_ou hm OuB.rf] at e
  exact ⟨_, _, x_share hx hv p q, e, LI.up0 hx ho hv hca h14 h4 h15 hws 0⟩
theorem s_lives (h : LI z xo f) (p : Int32) : ∃ r f2, fnX9_lives f xo p = some r ∧ fnX10_lives f (xo + 280) p = some (r, f2) ∧ LI z xo f2 := by
  obtain ⟨lf, n, k, ws, iv, ia, la, hx, hm, ⟨hv, hca, h14, h4, h15⟩, hws, ho⟩ := h
  have e := m_lives (mo := xo + 280) (iv := iv) (ia := ia) (la := la) (g := f) hv p
  rw [mh_ou hm OuB.rf] at e
  exact ⟨_, _, x_lives hx hv p, e, LI.up0 hx ho hv hca h14 h4 h15 hws 0⟩
theorem s_whole (h : LI z xo f) (p : Int32) : ∃ r f1 f2, fnX9_whole f xo p = some (r, f1) ∧ fnX10_whole f1 (xo + 280) p = some (r, f2) ∧ LI z xo f2 := by
  obtain ⟨lf, n, k, ws, iv, ia, la, hx, hm, ⟨hv, hca, h14, h4, h15⟩, hws, ho⟩ := h
  obtain ⟨f1, e1, e2, e3⟩ := x_whole hx hv p
  obtain ⟨iv', la', e4, e5⟩ := m_whole (mo := xo + 280) (iv := iv) (ia := ia) (la := la) (g := f1) hv hca p
  rw [mh_ou hm e3] at e4
  exact ⟨_, f1, _, e1, e4, LI.lr e2 (out_ou ho e3) hv h14 h4 h15 hws e5⟩
theorem s_discount (h : LI z xo f) (p : Int32) : ∃ r f1 f2, fnX9_discount f xo p = some (r, f1) ∧ fnX10_discount f1 (xo + 280) p = some (r, f2) ∧ LI z xo f2 := by
  obtain ⟨lf, n, k, ws, iv, ia, la, hx, hm, ⟨hv, hca, h14, h4, h15⟩, hws, ho⟩ := h
  obtain ⟨f1, e1, e2, e3⟩ := x_discount hx hv p
  obtain ⟨iv', la', e4, e5⟩ := m_discount (mo := xo + 280) (iv := iv) (ia := ia) (la := la) (g := f1) hv hca p
  rw [mh_ou hm e3] at e4
  exact ⟨_, f1, _, e1, e4, LI.lr e2 (out_ou ho e3) hv h14 h4 h15 hws e5⟩
theorem s_paid (h : LI z xo f) (q p : Int32) : ∃ r f1 f2, fnX9_paid f xo q p = some (r, f1) ∧ fnX10_paid f1 (xo + 280) q p = some (r, f2) ∧ LI z xo f2 := by
  obtain ⟨lf, n, k, ws, iv, ia, la, hx, hm, ⟨hv, hca, h14, h4, h15⟩, hws, ho⟩ := h
  obtain ⟨f1, e1, e2, e3⟩ := x_paid hx hv q p
  obtain ⟨iv', la', e4, e5⟩ := m_paid (mo := xo + 280) (iv := iv) (ia := ia) (la := la) (g := f1) hv hca q p
  rw [mh_ou hm e3] at e4
  exact ⟨_, f1, _, e1, e4, LI.lr e2 (out_ou ho e3) hv h14 h4 h15 hws e5⟩
theorem s_sum (h : LI z xo f) (p s t : Int32) : ∃ r f1 f2, fnX9_sum f xo p s t = some (r, f1) ∧ fnX10_sum f1 (xo + 280) p s t = some (r, f2) ∧ LI z xo f2 := by
  obtain ⟨lf, n, k, ws, iv, ia, la, hx, hm, ⟨hv, hca, h14, h4, h15⟩, hws, ho⟩ := h
  obtain ⟨f1, e1, e2, e3⟩ := x_sum hx hv p s t
  obtain ⟨iv', la', e4, e5⟩ := m_sum (mo := xo + 280) (iv := iv) (ia := ia) (la := la) (g := f1) hv hca p s t
  rw [mh_ou hm e3] at e4
  exact ⟨_, f1, _, e1, e4, LI.lr e2 (out_ou ho e3) hv h14 h4 h15 hws e5⟩
theorem s_richest (h : LI z xo f) (q : Int32) : ∃ r f1 f2, fnX9_richest f xo q = some (r, f1) ∧ fnX10_richest f1 (xo + 280) q = some (r, f2) ∧ LI z xo f2 := by
  obtain ⟨lf, n, k, ws, iv, ia, la, hx, hm, ⟨hv, hca, h14, h4, h15⟩, hws, ho⟩ := h
  obtain ⟨f1, e1, e2, e3⟩ := x_richest hx hv q
  obtain ⟨iv', la', e4, e5⟩ := m_richest (mo := xo + 280) (iv := iv) (ia := ia) (la := la) (g := f1) hv hca q
  rw [mh_ou hm e3] at e4
  exact ⟨_, f1, _, e1, e4, LI.lr e2 (out_ou ho e3) hv h14 h4 h15 hws e5⟩
theorem s_annuity (h : LI z xo f) (p q s : Int32) : ∃ r f1 f2, fnX9_annuity f xo p q s = some (r, f1) ∧ fnX10_annuity f1 (xo + 280) p q s = some (r, f2) ∧ LI z xo f2 := by
  obtain ⟨lf, n, k, ws, iv, ia, la, hx, hm, ⟨hv, hca, h14, h4, h15⟩, hws, ho⟩ := h
  obtain ⟨f1, e1, e2, e3⟩ := x_annuity hx hv p q s
  obtain ⟨iv', la', e4, e5⟩ := m_annuity (mo := xo + 280) (iv := iv) (ia := ia) (la := la) (g := f1) hv hca p q s
  rw [mh_ou hm e3] at e4
  exact ⟨_, f1, _, e1, e4, LI.lr e2 (out_ou ho e3) hv h14 h4 h15 hws e5⟩
theorem s_own (h : LI z xo f) (p : Int32) : ∃ r f1 f2, fnX9_own f xo p = some (r, f1) ∧ fnX10_own f1 (xo + 280) p = some (r, f2) ∧ LI z xo f2 := by
  obtain ⟨lf, n, k, ws, iv, ia, la, hx, hm, ⟨hv, hca, h14, h4, h15⟩, hws, ho⟩ := h
  obtain ⟨f1, e1, e2, e3⟩ := x_own hx hv p
  obtain ⟨iv', la', e4, e5⟩ := m_own (mo := xo + 280) (iv := iv) (ia := ia) (la := la) (g := f1) hv hca p
  rw [mh_ou hm e3] at e4
  exact ⟨_, f1, _, e1, e4, LI.lr e2 (out_ou ho e3) hv h14 h4 h15 hws e5⟩
theorem s_worth (h : LI z xo f) (p q : Int32) : ∃ r f1 f2, fnX9_worth f xo p q = some (r, f1) ∧ fnX10_worth f1 (xo + 280) p q = some (r, f2) ∧ LI z xo f2 := by
  obtain ⟨lf, n, k, ws, iv, ia, la, hx, hm, ⟨hv, hca, h14, h4, h15⟩, hws, ho⟩ := h
  obtain ⟨f1, e1, e2, e3⟩ := x_worth hx hv p q
  obtain ⟨iv', la', e4, e5⟩ := m_worth (mo := xo + 280) (iv := iv) (ia := ia) (la := la) (g := f1) hv hca p q
  rw [mh_ou hm e3] at e4
  exact ⟨_, f1, _, e1, e4, LI.lr e2 (out_ou ho e3) hv h14 h4 h15 hws e5⟩
theorem s_best (h : LI z xo f) (p : Int32) : ∃ r f1 f2, fnX9_claimBest f xo p = some (r, f1) ∧ fnX10_claimBest f1 (xo + 280) p = some (r, f2) ∧ LI z xo f2 := by
  obtain ⟨lf, n, k, ws, iv, ia, la, hx, hm, ⟨hv, hca, h14, h4, h15⟩, hws, ho⟩ := h
  obtain ⟨f1, e1, e2, e3⟩ := x_best hx hv p
  obtain ⟨iv', la', e4, e5⟩ := m_claimBest (mo := xo + 280) (iv := iv) (ia := ia) (la := la) (g := f1) hv hca p
  rw [mh_ou hm e3] at e4
  exact ⟨_, f1, _, e1, e4, LI.lr e2 (out_ou ho e3) hv h14 h4 h15 hws e5⟩
theorem s_half (h : LI z xo f) (p : Int32) : ∃ r f1 f2, fnX9_half f xo p = some (r, f1) ∧ fnX10_half f1 (xo + 280) p = some (r, f2) ∧ LI z xo f2 := by
  obtain ⟨lf, n, k, ws, iv, ia, la, hx, hm, ⟨hv, hca, h14, h4, h15⟩, hws, ho⟩ := h
  obtain ⟨f1, e1, e2, e3⟩ := x_half hx hv p
  obtain ⟨iv', la', e4, e5⟩ := m_half (mo := xo + 280) (iv := iv) (ia := ia) (la := la) (g := f1) hv hca p
  rw [mh_ou hm e3] at e4
  exact ⟨_, f1, _, e1, e4, LI.lr e2 (out_ou ho e3) hv h14 h4 h15 hws e5⟩
theorem s_crosses (h : LI z xo f) (p : Int32) : ∃ r f1 f2, fnX9_crosses f xo p = some (r, f1) ∧ fnX10_crosses f1 (xo + 280) p = some (r, f2) ∧ LI z xo f2 := by
  obtain ⟨lf, n, k, ws, iv, ia, la, hx, hm, ⟨hv, hca, h14, h4, h15⟩, hws, ho⟩ := h
  obtain ⟨f1, e1, e2, e3⟩ := x_crosses hx hv p
  obtain ⟨iv', la', e4, e5⟩ := m_crosses (mo := xo + 280) (iv := iv) (ia := ia) (la := la) (g := f1) hv hca p
  rw [mh_ou hm e3] at e4
  exact ⟨_, f1, _, e1, e4, LI.lr e2 (out_ou ho e3) hv h14 h4 h15 hws e5⟩
theorem s_happens (h : LI z xo f) (p : Int32) : ∃ r f1 f2, fnX9_happens f xo p = some (r, f1) ∧ fnX10_happens f1 (xo + 280) p = some (r, f2) ∧ LI z xo f2 := by
  obtain ⟨lf, n, k, ws, iv, ia, la, hx, hm, ⟨hv, hca, h14, h4, h15⟩, hws, ho⟩ := h
  obtain ⟨f1, e1, e2, e3⟩ := x_happens hx hv p
  obtain ⟨iv', c', e4, e5⟩ := m_happens (mo := xo + 280) (iv := iv) (ia := ia) (la := la) (g := f1) hv p
  rw [mh_ou hm e3] at e4
  refine ⟨_, f1, _, e1, e4, LI.mk (ia := va_up ia 3 c') e2 (out_ou ho e3) hv ?_ (by rw [e5 14 (by decide) (by decide)]; exact h14) (by rw [e5 4 (by decide) (by decide)]; exact h4) (by rw [e5 15 (by decide) (by decide)]; exact h15) hws⟩
  unfold CaOK at hca ⊢
  rw [e5 6 (by decide) (by decide)]; exact hca
theorem s_feed (h : LI z xo f) (a b c d e : Int32) : ∃ r f1 f2, fnX9_feed f xo a b c d e = some (r, f1) ∧ fnX10_feed f1 (xo + 280) a b c d e = some (r, f2) ∧ LI z xo f2 := by
  obtain ⟨lf, n, k, ws, iv, ia, la, hx, hm, ⟨hv, hca, h14, h4, h15⟩, hws, ho⟩ := h
  have h400 := hx.1.2.2.1
  rcases x_feed hx a b c d e with ⟨q, f1, e1, e2, e3⟩ | ⟨q, e1⟩
  · rcases m_feed (mo := xo + 280) (iv := iv) (ia := ia) (la := la) (g := f1) h14 h400 a b c d e with ⟨_, iv', e4, e5, e6⟩ | ⟨q2, _⟩
    · rw [mh_ou hm e3] at e4
      refine ⟨_, f1, _, e1, e4, LI.mk (ia := va_up ia 4 (fd5 (ia 4) n a b c d e)) (by rw [up_n (by decide), up_s]; exact e2) (out_ou ho e3) hv ?_ e5 (by rw [e6 4 (by decide) (by decide)]; exact h4) (by rw [e6 15 (by decide) (by decide)]; exact h15) hws⟩
      unfold CaOK at hca ⊢
      rw [e6 6 (by decide) (by decide)]; exact hca
    · omega
  · rcases m_feed (mo := xo + 280) (iv := iv) (ia := ia) (la := la) (g := f) h14 h400 a b c d e with ⟨q2, _⟩ | ⟨_, e4⟩
    · omega
    · rw [mh_ou hm OuB.rf] at e4
      exact ⟨_, f, _, e1, e4, LI.up0 hx ho hv hca h14 h4 h15 hws 0⟩
theorem s_end (h : LI z xo f) (p : Int32) : ∃ r f1 f2, fnX9_end f xo p = some (r, f1) ∧ fnX10_end f1 (xo + 280) p = some (r, f2) ∧ LI z xo f2 := by
  obtain ⟨lf, n, k, ws, iv, ia, la, hx, hm, ⟨hv, hca, h14, h4, h15⟩, hws, ho⟩ := h
  rcases x_end hx p with ⟨q, e1⟩ | ⟨q, m, f1, em, e1, e2, e3⟩
  · have e4 := m_end (mo := xo + 280) (iv := iv) (ia := ia) (la := la) (g := f) p
    rw [mh_ou hm OuB.rf, h14, if_pos q] at e4
    exact ⟨_, f, _, e1, e4, LI.up0 hx ho hv hca h14 h4 h15 hws 0⟩
  · have e4 := m_end (mo := xo + 280) (iv := iv) (ia := ia) (la := la) (g := f1) p
    rw [mh_ou hm e3, h14, if_neg q] at e4
    exact ⟨_, f1, _, e1, e4, LI.mk e2 (out_ou ho e3) hv hca (by rw [up_s]; exact em) (by rw [up_n (by decide), up_n (by decide)]; exact h4) (by rw [up_n (by decide), up_n (by decide)]; exact h15) hws⟩
theorem kp_ws {k : Nat} {w : Nat → Int32} {ws : Nat → Nat → Int32} {o c : Nat → Int32} (hv : Vld w) (hk : KpR o k w c) (h12 : k ≤ 12) (hws : ∀ i, i < k → Vld (ws i) ∧ ∀ j, j < 87 → ws i j = o (87 * i + j)) : ∀ i, i < kpN k → Vld (kpW k ws w i) ∧ ∀ j, j < 87 → kpW k ws w i j = c (87 * i + j) := by
  intro i hi
  unfold kpW
  by_cases e : i + 1 = kpN k
  · rw [if_pos e]
    refine ⟨hv, fun j hj => ?_⟩
    have := hk.2 j hj
    rw [show kpN k - 1 = i by omega] at this
    exact this.symm
  · rw [if_neg e]
    have hlt : (if k = 12 then i + 1 else i) < k := by
      unfold kpN at hi e
      by_cases q : k = 12
      · rw [if_pos q] at hi e ⊢; omega
      · rw [if_neg q] at hi e ⊢; omega
    obtain ⟨a, b⟩ := hws _ hlt
    exact ⟨a, fun j hj => by rw [b j hj, hk.1 i (by omega) j hj]⟩
theorem s_set (h : LI z xo f) (p q v : Int32) : ∃ r f1 f2, fnX9_set f xo p q v = some (r, f1) ∧ fnX10_set f1 (xo + 280) p q v = some (r, f2) ∧ LI z xo f2 := by
  obtain ⟨lf, n, k, ws, iv, ia, la, hx, hm, ⟨hv, hca, h14, h4, h15⟩, hws, ho⟩ := h
  have h12 := hx.1.2.2.2
  have tof : ∀ t, plc (ia 0) p q v = nI t → t < 67 → (plc (ia 0) p q v).toNatClampNeg = t := fun t e1 e2 => by rw [e1, nI_clamp (by omega)]
  rcases x_set hx hv p q v with ⟨c1, e1⟩ | ⟨c1, c2, e1⟩ | ⟨c1, c2, f1, e1, e2, e3⟩
  · rcases m_set (mo := xo + 280) (iv := iv) (ia := ia) (la := la) (g := f) hv h4 h12 p q v with ⟨_, e4⟩ | ⟨t, t1, t2, _⟩
    · rw [mh_ou hm OuB.rf] at e4
      exact ⟨_, f, _, e1, e4, LI.up0 hx ho hv hca h14 h4 h15 hws 0⟩
    · exfalso; rw [t1] at c1; exact ne_m1 (by rw [nI_toInt (by omega)]; omega) c1
  · rcases m_set (mo := xo + 280) (iv := iv) (ia := ia) (la := la) (g := f) hv h4 h12 p q v with ⟨c, _⟩ | ⟨t, t1, t2, t3, ⟨_, e4⟩ | ⟨c, _⟩⟩
    · exact absurd c c1
    · rw [mh_ou hm OuB.rf] at e4
      exact ⟨_, f, _, e1, e4, LI.up0 hx ho hv hca h14 h4 h15 hws 0⟩
    · exfalso; rw [tof t t1 t2] at c2; exact c c2
  · rcases m_set (mo := xo + 280) (iv := iv) (ia := ia) (la := la) (g := f1) hv h4 h12 p q v with ⟨c, _⟩ | ⟨t, t1, t2, t3, ⟨c, _⟩ | ⟨_, iv', c', e4, e5, e6, e7, e8⟩⟩
    · exact absurd c c1
    · exfalso; rw [tof t t1 t2] at c2; exact c2 c
    · rw [mh_ou hm e3] at e4
      rw [tof t t1 t2] at e2
      refine ⟨_, f1, _, e1, e4, LI.mk (ia := va_up (va_up ia 1 c') 0 (upd (ia 0) t v)) (by rw [up_s, up_n (show (4 : Nat) ≠ 0 by decide), up_n (show (4 : Nat) ≠ 1 by decide)]; exact e2) (out_ou ho e3) (by rw [up_s]; exact Vld_set hv t3) (Or.inl e7) (by rw [e8 14 (by decide) (by decide) (by decide)]; exact h14) e6 (by rw [e8 15 (by decide) (by decide) (by decide)]; exact h15) ?_⟩
      rw [up_n (show (1 : Nat) ≠ 0 by decide), up_s]
      exact kp_ws hv e5 h12 hws
theorem s_undo (h : LI z xo f) : ∃ r f1 f2, fnX9_undo f xo = some (r, f1) ∧ fnX10_undo f1 (xo + 280) = some (r, f2) ∧ LI z xo f2 := by
  obtain ⟨lf, n, k, ws, iv, ia, la, hx, hm, ⟨hv, hca, h14, h4, h15⟩, hws, ho⟩ := h
  have h12 := hx.1.2.2.2
  rcases x_undo hx (fun i hi => (hws i hi).1.c) with ⟨c1, e1⟩ | ⟨c1, f1, e1, e2, e3⟩
  · rcases m_undo (mo := xo + 280) (iv := iv) (ia := ia) (la := la) (g := f) h4 h12 with ⟨_, e4⟩ | ⟨c, _⟩
    · rw [mh_ou hm OuB.rf] at e4
      exact ⟨_, f, _, e1, e4, LI.up0 hx ho hv hca h14 h4 h15 hws 0⟩
    · omega
  · rcases m_undo (mo := xo + 280) (iv := iv) (ia := ia) (la := la) (g := f1) h4 h12 with ⟨c, _⟩ | ⟨_, iv', c', e4, e5, e6, e7, e8⟩
    · omega
    · rw [mh_ou hm e3] at e4
      obtain ⟨v1, v2⟩ := hws (k - 1) (by omega)
      have cg : ∀ j, j < 87 → c' j = ws (k - 1) j := fun j hj => by rw [e5 j hj, v2 j hj]
      obtain ⟨a, b, c, d⟩ := id e2
      refine ⟨_, f1, _, e1, e4, LI.mk (ia := va_up ia 0 c') (by rw [up_s, up_n (by decide)]; exact ⟨a, b, c.row v1.c cg, d⟩) (out_ou ho e3) (by rw [up_s]; exact Vld_cg v1 cg) (Or.inl e7) (by rw [e8 14 (by decide) (by decide) (by decide)]; exact h14) e6 (by rw [e8 15 (by decide) (by decide) (by decide)]; exact h15) (fun i hi => by rw [up_n (by decide)]; exact hws i (by omega))⟩
theorem s_tell (h : LI z xo f) : ∃ r f1 f2, fnX9_tell f xo = some (r, f1) ∧ fnX10_tell f1 (xo + 280) = some (r, f2) ∧ LI z xo f2 := by
  obtain ⟨lf, n, k, ws, iv, ia, la, hx, hm, ⟨hv, hca, h14, h4, h15⟩, hws, ho⟩ := h
  have h12 := hx.1.2.2.2
  have h400 := hx.1.2.2.1
  obtain ⟨f1, e1, e3, e2⟩ := x_tell hx hv
  obtain ⟨iv', ia', e4, q14, q15, q6, a4, hh⟩ := m_tell (mo := xo + 280) (iv := iv) (ia := ia) (la := la) (g := f1) hv h14 h400 h4 h12
  rw [mh_ou hm e3] at e4
  have hT1 : Vld (telT (ia 4) n (ia 0)).2.1 := (telL_ok (tp := ia 4) h400 (n + 1) 0 (ia 0) 0 hv (by omega) (by omega)).1
  refine ⟨_, f1, _, e1, e4, ?_⟩
  rcases e2 with ⟨c1, c2, hx'⟩ | ⟨c1, hx'⟩
  · rcases hh with ⟨_, _, r0, r4, r1⟩ | ⟨_, d, _⟩ | ⟨d, _⟩
    · exact LI.mk (ia := ia') (by rw [r0, a4]; exact hx') (out_ou ho e3) (by rw [r0]; exact hT1) (Or.inl q6) q14 r4 q15 (kp_ws hv r1 h12 hws)
    · omega
    · exact absurd c1 d
  · rcases hh with ⟨d1, d2, _⟩ | ⟨d1, d2, r0, r4, r1⟩ | ⟨d, r0, r4, r1⟩
    · exact absurd ⟨d1, d2⟩ c1
    · have ew : (telT (ia 4) n (ia 0)).2.1 = ia 0 := (telL_c (tp := ia 4) (n := n) (n + 1) 0 (ia 0) 0).2 d2
      exact LI.mk (ia := ia') (by rw [r0, a4, ew]; exact hx') (out_ou ho e3) (by rw [r0, ew]; exact hv) (Or.inl q6) q14 r4 q15 (fun i hi => by rw [r1]; exact hws i hi)
    · obtain ⟨a, b, c, d⟩ := id hx'
      exact LI.mk (ia := ia') (by rw [a4]; exact ⟨a, b, c.row hv.c r0, d⟩) (out_ou ho e3) (Vld_cg hv r0) (Or.inl q6) q14 r4 q15 (fun i hi => by rw [r1]; exact hws i hi)
end STQ
