def fX10_readServe_52 (f : pz_H) : Option (Int32 × pz_H) :=
  (pz_b ((0 : Int32))).bind fun x => some (x, f)
theorem tX10_readServe_52 {G : pz_G} {C : pz_C} {f : pz_H} {r : (Int32 × pz_H)} (hC : pz_OK G C cX10_readServe 6 RX10) (hK : pz_K C (some .boolean) 3 66 0 0) (hf : fX10_readServe_52 f = some r) : pz_W G C 6 52 [] [] f 0 0 (pz_Q G C (some (.int r.1)) r.2 0 0) := by
  unfold fX10_readServe_52 at hf
  refine pz_iconst (v := (0 : Int32)) hC dX10_readServe_52 (by decide) ?_
  exact pz_zretw hC hK dX10_readServe_53 hf
def fX10_readServe_112 (f : pz_H) (l0 : Nat) (l1 : Int32) : Option (Int32 × pz_H) :=
  (fnX10_fails f l0 ((4 : Int32)) l1).bind fun x1 =>
  (pz_b x1.1).bind fun x => some (x, x1.2)
theorem tX10_readServe_112 {G : pz_G} {C : pz_C} {f : pz_H} {l0 : Nat} {l1 : Int32} {r : (Int32 × pz_H)} (hC : pz_OK G C cX10_readServe 6 RX10) (hK : pz_K C (some .boolean) 3 66 0 0) (hf : fX10_readServe_112 f l0 l1 = some r) : pz_W G C 6 112 [(0, .ref l0), (1, .int l1)] [] f 0 0 (pz_Q G C (some (.int r.1)) r.2 0 0) := by
  unfold fX10_readServe_112 at hf
  refine pz_aload_n hC dX10_readServe_112 0 rfl ?_
  refine pz_iconst (v := (4 : Int32)) hC dX10_readServe_113 (by decide) ?_
  refine pz_iload_n hC dX10_readServe_114 1 rfl ?_
  refine pz_Viw (As := [.int (4 : Int32), .int l1]) hC hK dX10_readServe_115 py_X10_fails pv_X10_fails lk_X10_231 hf (fun _ h => mX10_fails h) rfl rfl (Nat.le_of_ble_eq_true rfl) ⟨by decide, by decide⟩ ⟨Nat.le_of_ble_eq_true rfl, Nat.le_of_ble_eq_true rfl⟩ (fun x1 hf => ?_)
  exact pz_zretw hC hK dX10_readServe_118 hf
def fX10_readServe_148b (k127 : pz_H → Nat → Int32 → Int32 → Option (Int32 × pz_H)) (k148 : pz_H → Nat → Int32 → Int32 → Int32 → Option (Int32 × pz_H)) (f : pz_H) (l0 : Nat) (l2 : Int32) (l4 : Int32) (l5 : Int32) : Option (Int32 × pz_H) :=
  if (3 : Int32) ≤ l5 then k127 f l0 l2 ((l4 + (-1))) else
  (pz_gR f l0 9 1).bind fun v1 =>
  (fnX10_spanOf f l0 ((l4 - (1 : Int32))) l5).bind fun x2 =>
  (pz_tI f v1 0 ((((11 : Int32) + ((3 : Int32) * l4)) + l5)) x2).bind fun f3 =>
  k148 f3 l0 l2 l4 ((l5 + 1))
theorem tX10_readServe_148b {G : pz_G} {C : pz_C} {f : pz_H} {k127 : pz_H → Nat → Int32 → Int32 → Option (Int32 × pz_H)} {k148 : pz_H → Nat → Int32 → Int32 → Int32 → Option (Int32 × pz_H)} {l0 : Nat} {l2 : Int32} {l4 : Int32} {l5 : Int32} {r : (Int32 × pz_H)} (hC : pz_OK G C cX10_readServe 6 RX10) (hK : pz_K C (some .boolean) 3 66 0 0) (hk127 : ∀ (g : pz_H) (a0 : Nat) (a2 : Int32) (a4 : Int32), k127 g a0 a2 a4 = some r → pz_W G C 6 127 [(0, .ref a0), (2, .int a2), (4, .int a4)] [] g 0 0 (pz_Q G C (some (.int r.1)) r.2 0 0)) (hk148 : ∀ (g : pz_H) (a0 : Nat) (a2 : Int32) (a4 : Int32) (a5 : Int32), k148 g a0 a2 a4 a5 = some r → pz_W G C 6 148 [(0, .ref a0), (2, .int a2), (4, .int a4), (5, .int a5)] [] g 0 0 (pz_Q G C (some (.int r.1)) r.2 0 0)) (hf : fX10_readServe_148b k127 k148 f l0 l2 l4 l5 = some r) : pz_W G C 6 148 [(0, .ref l0), (2, .int l2), (4, .int l4), (5, .int l5)] [] f 0 0 (pz_Q G C (some (.int r.1)) r.2 0 0) := by
  unfold fX10_readServe_148b at hf
  refine pz_iload hC dX10_readServe_148 3 rfl ?_
  refine pz_iconst (v := (3 : Int32)) hC dX10_readServe_150 (by decide) ?_
  refine pz_icmp_ge hC dX10_readServe_151 hf (fun _ hf => ?_) (fun _ hf => ?_)
  · refine pz_iinc (v := (l4 + (-1))) hC dX10_readServe_185 2 rfl rfl (by decide) rfl ?_
    refine pz_goto hC dX10_readServe_188 ?_
    refine pz_sub [1, 2, 0] rfl ?_
    exact hk127 _ _ _ _ hf
  · refine pz_aload_n hC dX10_readServe_154 0 rfl ?_
    refine pz_getR hC dX10_readServe_155 fa_X10_7 hf (fun v1 hf => ?_)
    refine pz_bipush (v := (11 : Int32)) hC dX10_readServe_158 (by decide) ?_
    refine pz_iconst (v := (3 : Int32)) hC dX10_readServe_160 (by decide) ?_
    refine pz_iload hC dX10_readServe_161 2 rfl ?_
    refine pz_imul hC dX10_readServe_163 ?_
    refine pz_iadd hC dX10_readServe_164 ?_
    refine pz_iload hC dX10_readServe_165 3 rfl ?_
    refine pz_iadd hC dX10_readServe_167 ?_
    refine pz_aload_n hC dX10_readServe_168 0 rfl ?_
    refine pz_iload hC dX10_readServe_169 2 rfl ?_
    refine pz_iconst (v := (1 : Int32)) hC dX10_readServe_171 (by decide) ?_
    refine pz_isub hC dX10_readServe_172 ?_
    refine pz_iload hC dX10_readServe_173 3 rfl ?_
    refine pz_Vi (As := [.int (l4 - (1 : Int32)), .int l5]) hC hK dX10_readServe_175 py_X10_spanOf pv_X10_spanOf lk_X10_60 hf (fun _ h => mX10_spanOf h) rfl rfl (Nat.le_of_ble_eq_true rfl) ⟨by decide, by decide⟩ ⟨Nat.le_of_ble_eq_true rfl, Nat.le_of_ble_eq_true rfl⟩ (fun x2 hf => ?_)
    refine pz_iast hC dX10_readServe_178 hf (fun f3 hf => ?_)
    refine pz_iinc (v := (l5 + 1)) hC dX10_readServe_179 3 rfl rfl (by decide) rfl ?_
    refine pz_goto hC dX10_readServe_182 ?_
    refine pz_sub [1, 2, 3, 0] rfl ?_
    exact hk148 _ _ _ _ _ hf
def fX10_readServe_148 (k127 : pz_H → Nat → Int32 → Int32 → Option (Int32 × pz_H)) : Nat → pz_H → Nat → Int32 → Int32 → Int32 → Option (Int32 × pz_H)
  | 0, _, _, _, _, _ => none
  | n + 1, f, l0, l2, l4, l5 => fX10_readServe_148b k127 (fX10_readServe_148 k127 n) f l0 l2 l4 l5
theorem tX10_readServe_148 {G : pz_G} {C : pz_C} {k127 : pz_H → Nat → Int32 → Int32 → Option (Int32 × pz_H)} {r : (Int32 × pz_H)} (hC : pz_OK G C cX10_readServe 6 RX10) (hK : pz_K C (some .boolean) 3 66 0 0) (hk127 : ∀ (g : pz_H) (a0 : Nat) (a2 : Int32) (a4 : Int32), k127 g a0 a2 a4 = some r → pz_W G C 6 127 [(0, .ref a0), (2, .int a2), (4, .int a4)] [] g 0 0 (pz_Q G C (some (.int r.1)) r.2 0 0)) : ∀ (N : Nat) (f : pz_H) (l0 : Nat) (l2 : Int32) (l4 : Int32) (l5 : Int32), fX10_readServe_148 k127 N f l0 l2 l4 l5 = some r → pz_W G C 6 148 [(0, .ref l0), (2, .int l2), (4, .int l4), (5, .int l5)] [] f 0 0 (pz_Q G C (some (.int r.1)) r.2 0 0) := by
  intro N
  induction N with
  | zero => intro f l0 l2 l4 l5 hf; cases hf
  | succ N ih => intro f l0 l2 l4 l5 hf; exact tX10_readServe_148b hC hK hk127 (fun f l0 l2 l4 l5 hf => ih f l0 l2 l4 l5 hf) hf
def fX10_readServe_194b (k194 : pz_H → Nat → Int32 → Int32 → Option (Int32 × pz_H)) (f : pz_H) (l0 : Nat) (l4 : Int32) (l5 : Int32) : Option (Int32 × pz_H) :=
  if (3 : Int32) ≤ l5 then (pz_gR f l0 9 1).bind fun v1 =>
  (pz_aI f v1 0 ((3 : Int32))).bind fun v2 =>
  (pz_tI f v1 0 ((3 : Int32)) ((v2 + (1 : Int32)))).bind fun f3 =>
  (pz_b ((1 : Int32))).bind fun x => some (x, f3) else
  (pz_gR f l0 9 1).bind fun v4 =>
  (pz_gR f l0 9 21).bind fun v5 =>
  (pz_aI f v5 0 l5).bind fun v6 =>
  (pz_tI f v4 0 ((((11 : Int32) + ((3 : Int32) * l4)) + l5)) v6).bind fun f7 =>
  k194 f7 l0 l4 ((l5 + 1))
theorem tX10_readServe_194b {G : pz_G} {C : pz_C} {f : pz_H} {k194 : pz_H → Nat → Int32 → Int32 → Option (Int32 × pz_H)} {l0 : Nat} {l4 : Int32} {l5 : Int32} {r : (Int32 × pz_H)} (hC : pz_OK G C cX10_readServe 6 RX10) (hK : pz_K C (some .boolean) 3 66 0 0) (hk194 : ∀ (g : pz_H) (a0 : Nat) (a4 : Int32) (a5 : Int32), k194 g a0 a4 a5 = some r → pz_W G C 6 194 [(0, .ref a0), (4, .int a4), (5, .int a5)] [] g 0 0 (pz_Q G C (some (.int r.1)) r.2 0 0)) (hf : fX10_readServe_194b k194 f l0 l4 l5 = some r) : pz_W G C 6 194 [(0, .ref l0), (4, .int l4), (5, .int l5)] [] f 0 0 (pz_Q G C (some (.int r.1)) r.2 0 0) := by
  unfold fX10_readServe_194b at hf
  refine pz_iload hC dX10_readServe_194 2 rfl ?_
  refine pz_iconst (v := (3 : Int32)) hC dX10_readServe_196 (by decide) ?_
  refine pz_icmp_ge hC dX10_readServe_197 hf (fun _ hf => ?_) (fun _ hf => ?_)
  · refine pz_aload_n hC dX10_readServe_228 0 rfl ?_
    refine pz_getR hC dX10_readServe_229 fa_X10_7 hf (fun v1 hf => ?_)
    refine pz_iconst (v := (3 : Int32)) hC dX10_readServe_232 (by decide) ?_
    refine pz_dup2 hC dX10_readServe_233 rfl rfl ?_
    refine pz_iald hC dX10_readServe_234 hf (fun v2 hf => ?_)
    refine pz_iconst (v := (1 : Int32)) hC dX10_readServe_235 (by decide) ?_
    refine pz_iadd hC dX10_readServe_236 ?_
    refine pz_iast hC dX10_readServe_237 hf (fun f3 hf => ?_)
    refine pz_iconst (v := (1 : Int32)) hC dX10_readServe_238 (by decide) ?_
    exact pz_zretw hC hK dX10_readServe_239 hf
  · refine pz_aload_n hC dX10_readServe_200 0 rfl ?_
    refine pz_getR hC dX10_readServe_201 fa_X10_7 hf (fun v4 hf => ?_)
    refine pz_bipush (v := (11 : Int32)) hC dX10_readServe_204 (by decide) ?_
    refine pz_iconst (v := (3 : Int32)) hC dX10_readServe_206 (by decide) ?_
    refine pz_iload hC dX10_readServe_207 1 rfl ?_
    refine pz_imul hC dX10_readServe_209 ?_
    refine pz_iadd hC dX10_readServe_210 ?_
    refine pz_iload hC dX10_readServe_211 2 rfl ?_
    refine pz_iadd hC dX10_readServe_213 ?_
    refine pz_aload_n hC dX10_readServe_214 0 rfl ?_
    refine pz_getR hC dX10_readServe_215 fa_X10_41 hf (fun v5 hf => ?_)
    refine pz_iload hC dX10_readServe_218 2 rfl ?_
    refine pz_iald hC dX10_readServe_220 hf (fun v6 hf => ?_)
    refine pz_iast hC dX10_readServe_221 hf (fun f7 hf => ?_)
    refine pz_iinc (v := (l5 + 1)) hC dX10_readServe_222 2 rfl rfl (by decide) rfl ?_
    refine pz_goto hC dX10_readServe_225 ?_
    refine pz_sub [1, 2, 0] rfl ?_
    exact hk194 _ _ _ _ hf
def fX10_readServe_194 : Nat → pz_H → Nat → Int32 → Int32 → Option (Int32 × pz_H)
  | 0, _, _, _, _ => none
  | n + 1, f, l0, l4, l5 => fX10_readServe_194b (fX10_readServe_194 n) f l0 l4 l5
theorem tX10_readServe_194 {G : pz_G} {C : pz_C} {r : (Int32 × pz_H)} (hC : pz_OK G C cX10_readServe 6 RX10) (hK : pz_K C (some .boolean) 3 66 0 0) : ∀ (N : Nat) (f : pz_H) (l0 : Nat) (l4 : Int32) (l5 : Int32), fX10_readServe_194 N f l0 l4 l5 = some r → pz_W G C 6 194 [(0, .ref l0), (4, .int l4), (5, .int l5)] [] f 0 0 (pz_Q G C (some (.int r.1)) r.2 0 0) := by
  intro N
  induction N with
  | zero => intro f l0 l4 l5 hf; cases hf
  | succ N ih => intro f l0 l4 l5 hf; exact tX10_readServe_194b hC hK (fun f l0 l4 l5 hf => ih f l0 l4 l5 hf) hf
def fX10_readServe_191 (f : pz_H) (l0 : Nat) (l4 : Int32) : Option (Int32 × pz_H) :=
  fX10_readServe_194 pz_F f l0 l4 ((0 : Int32))
theorem tX10_readServe_191 {G : pz_G} {C : pz_C} {f : pz_H} {l0 : Nat} {l4 : Int32} {r : (Int32 × pz_H)} (hC : pz_OK G C cX10_readServe 6 RX10) (hK : pz_K C (some .boolean) 3 66 0 0) (hf : fX10_readServe_191 f l0 l4 = some r) : pz_W G C 6 191 [(0, .ref l0), (4, .int l4)] [] f 0 0 (pz_Q G C (some (.int r.1)) r.2 0 0) := by
  unfold fX10_readServe_191 at hf
  refine pz_iconst (v := (0 : Int32)) hC dX10_readServe_191 (by decide) ?_
  refine pz_istore hC dX10_readServe_192 (by decide) rfl ?_
  refine pz_sub [1, 2, 0] rfl ?_
  exact tX10_readServe_194 hC hK _ _ _ _ _ hf
def fX10_readServe_127b (k127 : pz_H → Nat → Int32 → Int32 → Option (Int32 × pz_H)) (f : pz_H) (l0 : Nat) (l2 : Int32) (l4 : Int32) : Option (Int32 × pz_H) :=
  if l4 ≤ 0 then fX10_readServe_191 f l0 l4 else
  (fnX10_spanOf f l0 ((l4 - (1 : Int32))) ((0 : Int32))).bind fun x1 =>
  if x1 ≤ l2 then fX10_readServe_191 f l0 l4 else
  fX10_readServe_148 k127 pz_F f l0 l2 l4 ((0 : Int32))
theorem tX10_readServe_127b {G : pz_G} {C : pz_C} {f : pz_H} {k127 : pz_H → Nat → Int32 → Int32 → Option (Int32 × pz_H)} {l0 : Nat} {l2 : Int32} {l4 : Int32} {r : (Int32 × pz_H)} (hC : pz_OK G C cX10_readServe 6 RX10) (hK : pz_K C (some .boolean) 3 66 0 0) (hk127 : ∀ (g : pz_H) (a0 : Nat) (a2 : Int32) (a4 : Int32), k127 g a0 a2 a4 = some r → pz_W G C 6 127 [(0, .ref a0), (2, .int a2), (4, .int a4)] [] g 0 0 (pz_Q G C (some (.int r.1)) r.2 0 0)) (hf : fX10_readServe_127b k127 f l0 l2 l4 = some r) : pz_W G C 6 127 [(0, .ref l0), (2, .int l2), (4, .int l4)] [] f 0 0 (pz_Q G C (some (.int r.1)) r.2 0 0) := by
  unfold fX10_readServe_127b at hf
  refine pz_iload hC dX10_readServe_127 2 rfl ?_
  refine pz_if_le hC dX10_readServe_129 hf (fun _ hf => ?_) (fun _ hf => ?_)
  · refine pz_sub [0, 2] rfl ?_
    exact tX10_readServe_191 hC hK hf
  · refine pz_aload_n hC dX10_readServe_132 0 rfl ?_
    refine pz_iload hC dX10_readServe_133 2 rfl ?_
    refine pz_iconst (v := (1 : Int32)) hC dX10_readServe_135 (by decide) ?_
    refine pz_isub hC dX10_readServe_136 ?_
    refine pz_iconst (v := (0 : Int32)) hC dX10_readServe_137 (by decide) ?_
    refine pz_Vi (As := [.int (l4 - (1 : Int32)), .int (0 : Int32)]) hC hK dX10_readServe_138 py_X10_spanOf pv_X10_spanOf lk_X10_60 hf (fun _ h => mX10_spanOf h) rfl rfl (Nat.le_of_ble_eq_true rfl) ⟨by decide, by decide⟩ ⟨Nat.le_of_ble_eq_true rfl, Nat.le_of_ble_eq_true rfl⟩ (fun x1 hf => ?_)
    refine pz_iload_n hC dX10_readServe_141 1 rfl ?_
    refine pz_icmp_le hC dX10_readServe_142 hf (fun _ hf => ?_) (fun _ hf => ?_)
    · refine pz_sub [0, 2] rfl ?_
      exact tX10_readServe_191 hC hK hf
    · refine pz_iconst (v := (0 : Int32)) hC dX10_readServe_145 (by decide) ?_
      refine pz_istore hC dX10_readServe_146 (by decide) rfl ?_
      refine pz_sub [1, 2, 3, 0] rfl ?_
      exact tX10_readServe_148 hC hK hk127 _ _ _ _ _ _ hf
def fX10_readServe_127 : Nat → pz_H → Nat → Int32 → Int32 → Option (Int32 × pz_H)
  | 0, _, _, _, _ => none
  | n + 1, f, l0, l2, l4 => fX10_readServe_127b (fX10_readServe_127 n) f l0 l2 l4
theorem tX10_readServe_127 {G : pz_G} {C : pz_C} {r : (Int32 × pz_H)} (hC : pz_OK G C cX10_readServe 6 RX10) (hK : pz_K C (some .boolean) 3 66 0 0) : ∀ (N : Nat) (f : pz_H) (l0 : Nat) (l2 : Int32) (l4 : Int32), fX10_readServe_127 N f l0 l2 l4 = some r → pz_W G C 6 127 [(0, .ref l0), (2, .int l2), (4, .int l4)] [] f 0 0 (pz_Q G C (some (.int r.1)) r.2 0 0) := by
  intro N
  induction N with
  | zero => intro f l0 l2 l4 hf; cases hf
  | succ N ih => intro f l0 l2 l4 hf; exact tX10_readServe_127b hC hK (fun f l0 l2 l4 hf => ih f l0 l2 l4 hf) hf
def fX10_readServe_119 (f : pz_H) (l0 : Nat) (l2 : Int32) : Option (Int32 × pz_H) :=
  (pz_gR f l0 9 1).bind fun v1 =>
  (pz_aI f v1 0 ((3 : Int32))).bind fun v2 =>
  fX10_readServe_127 pz_F f l0 l2 v2
theorem tX10_readServe_119 {G : pz_G} {C : pz_C} {f : pz_H} {l0 : Nat} {l2 : Int32} {r : (Int32 × pz_H)} (hC : pz_OK G C cX10_readServe 6 RX10) (hK : pz_K C (some .boolean) 3 66 0 0) (hf : fX10_readServe_119 f l0 l2 = some r) : pz_W G C 6 119 [(0, .ref l0), (2, .int l2)] [] f 0 0 (pz_Q G C (some (.int r.1)) r.2 0 0) := by
  unfold fX10_readServe_119 at hf
  refine pz_aload_n hC dX10_readServe_119 0 rfl ?_
  refine pz_getR hC dX10_readServe_120 fa_X10_7 hf (fun v1 hf => ?_)
  refine pz_iconst (v := (3 : Int32)) hC dX10_readServe_123 (by decide) ?_
  refine pz_iald hC dX10_readServe_124 hf (fun v2 hf => ?_)
  refine pz_istore hC dX10_readServe_125 (by decide) rfl ?_
  refine pz_sub [1, 2, 0] rfl ?_
  exact tX10_readServe_127 hC hK _ _ _ _ _ hf
def fnX10_readServe (f : pz_H) (a0 : Nat) (p1 : Int32) : Option (Int32 × pz_H) :=
  (pz_is f a0 9).bind fun _ =>
  (pz_gR f a0 9 1).bind fun v1 =>
  (pz_aI f v1 0 ((3 : Int32))).bind fun v2 =>
  if v2 = (8 : Int32) then (fnX10_fails f a0 ((3 : Int32)) p1).bind fun x18 =>
  (pz_b x18.1).bind fun x => some (x, x18.2) else
  (fnX10_month f a0 ((0 : Int32))).bind fun x3 =>
  if x3.1 = 0 then fX10_readServe_52 x3.2 else
  (fnX10_month x3.2 a0 ((1 : Int32))).bind fun x4 =>
  if x4.1 = 0 then fX10_readServe_52 x4.2 else
  (fnX10_number x4.2 a0 ((2 : Int32)) ((0 : Int32)) ((1000000 : Int32))).bind fun x5 =>
  if x5.1 = 0 then fX10_readServe_52 x5.2 else
  (fnX10_ends x5.2 a0).bind fun x6 =>
  if x6.1 = 0 then fX10_readServe_52 x6.2 else
  (pz_gR x6.2 a0 9 21).bind fun v7 =>
  (pz_aI x6.2 v7 0 ((0 : Int32))).bind fun v8 =>
  (pz_gR x6.2 a0 9 21).bind fun v9 =>
  (pz_aI x6.2 v9 0 ((1 : Int32))).bind fun v10 =>
  if v10 ≤ v8 then fX10_readServe_112 x6.2 a0 p1 else
  (pz_gR x6.2 a0 9 1).bind fun v11 =>
  (pz_aI x6.2 v11 0 ((0 : Int32))).bind fun v12 =>
  if v8 < v12 then fX10_readServe_112 x6.2 a0 p1 else
  (fnX10_serviceIn x6.2 a0 v8 v10).bind fun x13 =>
  if 0 < x13 then fX10_readServe_112 x6.2 a0 p1 else
  (pz_gR x6.2 a0 9 1).bind fun v14 =>
  (pz_aI x6.2 v14 0 ((1 : Int32))).bind fun v15 =>
  if v15 = ((-1) : Int32) then fX10_readServe_119 x6.2 a0 v8 else
  (pz_gR x6.2 a0 9 1).bind fun v16 =>
  (pz_aI x6.2 v16 0 ((1 : Int32))).bind fun v17 =>
  if v10 ≤ v17 then fX10_readServe_119 x6.2 a0 v8 else
  fX10_readServe_112 x6.2 a0 p1
theorem mX10_readServe {l : Launch} {G : pz_G} {f : pz_H} {a0 : Nat} {p1 : Int32} {r : (Int32 × pz_H)} (hf : fnX10_readServe f a0 p1 = some r) : pz_Met l G yX10_readServe cX10_readServe 6 (some .boolean) 3 66 0 0 [.ref a0, .int p1] f (some (.int r.1)) r.2 ∧ pz_is f a0 9 = some () := by
  unfold fnX10_readServe at hf
  obtain ⟨_, h0, hf⟩ := pz_bd hf
  refine ⟨pz_enter (by decide +kernel) (Nat.le_of_ble_eq_true rfl) (fun C hl hC hK hnm => ?_), h0⟩
  subst hl
  refine pz_sub (lv' := [(0, .ref a0), (1, .int p1)]) [0, 1] rfl ?_
  refine pz_aload_n hC dX10_readServe_0 0 rfl ?_
  refine pz_getR hC dX10_readServe_1 fa_X10_7 hf (fun v1 hf => ?_)
  refine pz_iconst (v := (3 : Int32)) hC dX10_readServe_4 (by decide) ?_
  refine pz_iald hC dX10_readServe_5 hf (fun v2 hf => ?_)
  refine pz_bipush (v := (8 : Int32)) hC dX10_readServe_6 (by decide) ?_
  refine pz_icmp_ne hC dX10_readServe_8 hf (fun _ hf => ?_) (fun _ hf => ?_)
  · refine pz_aload_n hC dX10_readServe_18 0 rfl ?_
    refine pz_iconst (v := (0 : Int32)) hC dX10_readServe_19 (by decide) ?_
    refine pz_Viw (As := [.int (0 : Int32)]) hC hK dX10_readServe_20 py_X10_month pv_X10_month lk_X10_247 hf (fun _ h => mX10_month h) rfl rfl (Nat.le_of_ble_eq_true rfl) ⟨by decide, by decide⟩ ⟨Nat.le_of_ble_eq_true rfl, Nat.le_of_ble_eq_true rfl⟩ (fun x3 hf => ?_)
    refine pz_if_eq hC dX10_readServe_23 hf (fun _ hf => ?_) (fun _ hf => ?_)
    · refine pz_sub [] rfl ?_
      exact tX10_readServe_52 hC hK hf
    · refine pz_aload_n hC dX10_readServe_26 0 rfl ?_
      refine pz_iconst (v := (1 : Int32)) hC dX10_readServe_27 (by decide) ?_
      refine pz_Viw (As := [.int (1 : Int32)]) hC hK dX10_readServe_28 py_X10_month pv_X10_month lk_X10_247 hf (fun _ h => mX10_month h) rfl rfl (Nat.le_of_ble_eq_true rfl) ⟨by decide, by decide⟩ ⟨Nat.le_of_ble_eq_true rfl, Nat.le_of_ble_eq_true rfl⟩ (fun x4 hf => ?_)
      refine pz_if_eq hC dX10_readServe_31 hf (fun _ hf => ?_) (fun _ hf => ?_)
      · refine pz_sub [] rfl ?_
        exact tX10_readServe_52 hC hK hf
      · refine pz_aload_n hC dX10_readServe_34 0 rfl ?_
        refine pz_iconst (v := (2 : Int32)) hC dX10_readServe_35 (by decide) ?_
        refine pz_iconst (v := (0 : Int32)) hC dX10_readServe_36 (by decide) ?_
        refine pz_ldc hC dX10_readServe_37 ck_X10_250 ?_
        refine pz_Viw (As := [.int (2 : Int32), .int (0 : Int32), .int (1000000 : Int32)]) hC hK dX10_readServe_39 py_X10_number pv_X10_number lk_X10_240 hf (fun _ h => mX10_number h) rfl rfl (Nat.le_of_ble_eq_true rfl) ⟨by decide, by decide⟩ ⟨Nat.le_of_ble_eq_true rfl, Nat.le_of_ble_eq_true rfl⟩ (fun x5 hf => ?_)
        refine pz_if_eq hC dX10_readServe_42 hf (fun _ hf => ?_) (fun _ hf => ?_)
        · refine pz_sub [] rfl ?_
          exact tX10_readServe_52 hC hK hf
        · refine pz_aload_n hC dX10_readServe_45 0 rfl ?_
          refine pz_Viw (As := []) hC hK dX10_readServe_46 py_X10_ends pv_X10_ends lk_X10_251 hf (fun _ h => mX10_ends h) rfl rfl (Nat.le_of_ble_eq_true rfl) ⟨by decide, by decide⟩ ⟨Nat.le_of_ble_eq_true rfl, Nat.le_of_ble_eq_true rfl⟩ (fun x6 hf => ?_)
          refine pz_if_ne hC dX10_readServe_49 hf (fun _ hf => ?_) (fun _ hf => ?_)
          · refine pz_aload_n hC dX10_readServe_54 0 rfl ?_
            refine pz_getR hC dX10_readServe_55 fa_X10_41 hf (fun v7 hf => ?_)
            refine pz_iconst (v := (0 : Int32)) hC dX10_readServe_58 (by decide) ?_
            refine pz_iald hC dX10_readServe_59 hf (fun v8 hf => ?_)
            refine pz_istore_n hC dX10_readServe_60 (by decide) rfl ?_
            refine pz_aload_n hC dX10_readServe_61 1 rfl ?_
            refine pz_getR hC dX10_readServe_62 fa_X10_41 hf (fun v9 hf => ?_)
            refine pz_iconst (v := (1 : Int32)) hC dX10_readServe_65 (by decide) ?_
            refine pz_iald hC dX10_readServe_66 hf (fun v10 hf => ?_)
            refine pz_istore_n hC dX10_readServe_67 (by decide) rfl ?_
            refine pz_iload_n hC dX10_readServe_68 0 rfl ?_
            refine pz_iload_n hC dX10_readServe_69 1 rfl ?_
            refine pz_icmp_le hC dX10_readServe_70 hf (fun _ hf => ?_) (fun _ hf => ?_)
            · refine pz_sub [2, 3] rfl ?_
              exact tX10_readServe_112 hC hK hf
            · refine pz_iload_n hC dX10_readServe_73 1 rfl ?_
              refine pz_aload_n hC dX10_readServe_74 2 rfl ?_
              refine pz_getR hC dX10_readServe_75 fa_X10_7 hf (fun v11 hf => ?_)
              refine pz_iconst (v := (0 : Int32)) hC dX10_readServe_78 (by decide) ?_
              refine pz_iald hC dX10_readServe_79 hf (fun v12 hf => ?_)
              refine pz_icmp_lt hC dX10_readServe_80 hf (fun _ hf => ?_) (fun _ hf => ?_)
              · refine pz_sub [2, 3] rfl ?_
                exact tX10_readServe_112 hC hK hf
              · refine pz_aload_n hC dX10_readServe_83 2 rfl ?_
                refine pz_iload_n hC dX10_readServe_84 1 rfl ?_
                refine pz_iload_n hC dX10_readServe_85 0 rfl ?_
                refine pz_Vi (As := [.int v8, .int v10]) hC hK dX10_readServe_86 py_X10_serviceIn pv_X10_serviceIn lk_X10_63 hf (fun _ h => mX10_serviceIn h) rfl rfl (Nat.le_of_ble_eq_true rfl) ⟨by decide, by decide⟩ ⟨Nat.le_of_ble_eq_true rfl, Nat.le_of_ble_eq_true rfl⟩ (fun x13 hf => ?_)
                refine pz_if_gt hC dX10_readServe_89 hf (fun _ hf => ?_) (fun _ hf => ?_)
                · refine pz_sub [2, 3] rfl ?_
                  exact tX10_readServe_112 hC hK hf
                · refine pz_aload_n hC dX10_readServe_92 2 rfl ?_
                  refine pz_getR hC dX10_readServe_93 fa_X10_7 hf (fun v14 hf => ?_)
                  refine pz_iconst (v := (1 : Int32)) hC dX10_readServe_96 (by decide) ?_
                  refine pz_iald hC dX10_readServe_97 hf (fun v15 hf => ?_)
                  refine pz_iconst (v := ((-1) : Int32)) hC dX10_readServe_98 (by decide) ?_
                  refine pz_icmp_eq hC dX10_readServe_99 hf (fun _ hf => ?_) (fun _ hf => ?_)
                  · refine pz_sub [2, 1] rfl ?_
                    exact tX10_readServe_119 hC hK hf
                  · refine pz_iload_n hC dX10_readServe_102 0 rfl ?_
                    refine pz_aload_n hC dX10_readServe_103 2 rfl ?_
                    refine pz_getR hC dX10_readServe_104 fa_X10_7 hf (fun v16 hf => ?_)
                    refine pz_iconst (v := (1 : Int32)) hC dX10_readServe_107 (by decide) ?_
                    refine pz_iald hC dX10_readServe_108 hf (fun v17 hf => ?_)
                    refine pz_icmp_le hC dX10_readServe_109 hf (fun _ hf => ?_) (fun _ hf => ?_)
                    · refine pz_sub [2, 1] rfl ?_
                      exact tX10_readServe_119 hC hK hf
                    · refine pz_sub [2, 3] rfl ?_
                      exact tX10_readServe_112 hC hK hf
          · refine pz_sub [] rfl ?_
            exact tX10_readServe_52 hC hK hf
  · refine pz_aload_n hC dX10_readServe_11 0 rfl ?_
    refine pz_iconst (v := (3 : Int32)) hC dX10_readServe_12 (by decide) ?_
    refine pz_iload_n hC dX10_readServe_13 1 rfl ?_
    refine pz_Viw (As := [.int (3 : Int32), .int p1]) hC hK dX10_readServe_14 py_X10_fails pv_X10_fails lk_X10_231 hf (fun _ h => mX10_fails h) rfl rfl (Nat.le_of_ble_eq_true rfl) ⟨by decide, by decide⟩ ⟨Nat.le_of_ble_eq_true rfl, Nat.le_of_ble_eq_true rfl⟩ (fun x18 hf => ?_)
    exact pz_zretw hC hK dX10_readServe_17 hf
def fX10_readWed_42 (f : pz_H) : Option (Int32 × pz_H) :=
  (pz_b ((0 : Int32))).bind fun x => some (x, f)
theorem tX10_readWed_42 {G : pz_G} {C : pz_C} {f : pz_H} {r : (Int32 × pz_H)} (hC : pz_OK G C cX10_readWed 5 RX10) (hK : pz_K C (some .boolean) 3 66 0 0) (hf : fX10_readWed_42 f = some r) : pz_W G C 5 42 [] [] f 0 0 (pz_Q G C (some (.int r.1)) r.2 0 0) := by
  unfold fX10_readWed_42 at hf
  refine pz_iconst (v := (0 : Int32)) hC dX10_readWed_42 (by decide) ?_
  exact pz_zretw hC hK dX10_readWed_43 hf
def fX10_readWed_97 (f : pz_H) (l0 : Nat) (l1 : Int32) : Option (Int32 × pz_H) :=
  (fnX10_fails f l0 ((4 : Int32)) l1).bind fun x1 =>
  (pz_b x1.1).bind fun x => some (x, x1.2)
theorem tX10_readWed_97 {G : pz_G} {C : pz_C} {f : pz_H} {l0 : Nat} {l1 : Int32} {r : (Int32 × pz_H)} (hC : pz_OK G C cX10_readWed 5 RX10) (hK : pz_K C (some .boolean) 3 66 0 0) (hf : fX10_readWed_97 f l0 l1 = some r) : pz_W G C 5 97 [(0, .ref l0), (1, .int l1)] [] f 0 0 (pz_Q G C (some (.int r.1)) r.2 0 0) := by
  unfold fX10_readWed_97 at hf
  refine pz_aload_n hC dX10_readWed_97 0 rfl ?_
  refine pz_iconst (v := (4 : Int32)) hC dX10_readWed_98 (by decide) ?_
  refine pz_iload_n hC dX10_readWed_99 1 rfl ?_
  refine pz_Viw (As := [.int (4 : Int32), .int l1]) hC hK dX10_readWed_100 py_X10_fails pv_X10_fails lk_X10_231 hf (fun _ h => mX10_fails h) rfl rfl (Nat.le_of_ble_eq_true rfl) ⟨by decide, by decide⟩ ⟨Nat.le_of_ble_eq_true rfl, Nat.le_of_ble_eq_true rfl⟩ (fun x1 hf => ?_)
  exact pz_zretw hC hK dX10_readWed_103 hf
def fX10_readWed_162 (k107 : pz_H → Nat → Int32 → Int32 → Option (Int32 × pz_H)) (f : pz_H) (l0 : Nat) (l2 : Int32) (l4 : Int32) (s0 : Int32) (s1 : Int32) (s2 : Nat) : Option (Int32 × pz_H) :=
  (pz_tI f s2 0 s1 s0).bind fun f1 =>
  k107 f1 l0 l2 ((l4 + 1))
theorem tX10_readWed_162 {G : pz_G} {C : pz_C} {f : pz_H} {k107 : pz_H → Nat → Int32 → Int32 → Option (Int32 × pz_H)} {l0 : Nat} {l2 : Int32} {l4 : Int32} {s0 : Int32} {s1 : Int32} {s2 : Nat} {r : (Int32 × pz_H)} (hC : pz_OK G C cX10_readWed 5 RX10) (hK : pz_K C (some .boolean) 3 66 0 0) (hk107 : ∀ (g : pz_H) (a0 : Nat) (a2 : Int32) (a4 : Int32), k107 g a0 a2 a4 = some r → pz_W G C 5 107 [(0, .ref a0), (2, .int a2), (4, .int a4)] [] g 0 0 (pz_Q G C (some (.int r.1)) r.2 0 0)) (hf : fX10_readWed_162 k107 f l0 l2 l4 s0 s1 s2 = some r) : pz_W G C 5 162 [(0, .ref l0), (2, .int l2), (4, .int l4)] [.int s0, .int s1, .ref s2] f 0 0 (pz_Q G C (some (.int r.1)) r.2 0 0) := by
  unfold fX10_readWed_162 at hf
  refine pz_iast hC dX10_readWed_162 hf (fun f1 hf => ?_)
  refine pz_iinc (v := (l4 + 1)) hC dX10_readWed_163 2 rfl rfl (by decide) rfl ?_
  refine pz_goto hC dX10_readWed_166 ?_
  refine pz_sub [1, 2, 0] rfl ?_
  exact hk107 _ _ _ _ hf
def fX10_readWed_157 (k107 : pz_H → Nat → Int32 → Int32 → Option (Int32 × pz_H)) (f : pz_H) (l0 : Nat) (l2 : Int32) (l4 : Int32) (s0 : Int32) (s1 : Nat) : Option (Int32 × pz_H) :=
  fX10_readWed_162 k107 f l0 l2 l4 (((-1) : Int32)) s0 s1
theorem tX10_readWed_157 {G : pz_G} {C : pz_C} {f : pz_H} {k107 : pz_H → Nat → Int32 → Int32 → Option (Int32 × pz_H)} {l0 : Nat} {l2 : Int32} {l4 : Int32} {s0 : Int32} {s1 : Nat} {r : (Int32 × pz_H)} (hC : pz_OK G C cX10_readWed 5 RX10) (hK : pz_K C (some .boolean) 3 66 0 0) (hk107 : ∀ (g : pz_H) (a0 : Nat) (a2 : Int32) (a4 : Int32), k107 g a0 a2 a4 = some r → pz_W G C 5 107 [(0, .ref a0), (2, .int a2), (4, .int a4)] [] g 0 0 (pz_Q G C (some (.int r.1)) r.2 0 0)) (hf : fX10_readWed_157 k107 f l0 l2 l4 s0 s1 = some r) : pz_W G C 5 157 [(0, .ref l0), (2, .int l2), (4, .int l4)] [.int s0, .ref s1] f 0 0 (pz_Q G C (some (.int r.1)) r.2 0 0) := by
  unfold fX10_readWed_157 at hf
  refine pz_iconst (v := ((-1) : Int32)) hC dX10_readWed_157 (by decide) ?_
  refine pz_goto hC dX10_readWed_158 ?_
  exact tX10_readWed_162 hC hK hk107 hf
def fX10_readWed_107b (k107 : pz_H → Nat → Int32 → Int32 → Option (Int32 × pz_H)) (f : pz_H) (l0 : Nat) (l2 : Int32) (l4 : Int32) : Option (Int32 × pz_H) :=
  if (8 : Int32) ≤ l4 then (pz_gR f l0 9 1).bind fun v1 =>
  (pz_aI f v1 0 ((4 : Int32))).bind fun v2 =>
  (pz_tI f v1 0 ((4 : Int32)) ((v2 + (1 : Int32)))).bind fun f3 =>
  (pz_b ((1 : Int32))).bind fun x => some (x, f3) else
  (pz_gR f l0 9 1).bind fun v4 =>
  if (2 : Int32) ≤ l4 then if l4 = (2 : Int32) then fX10_readWed_157 k107 f l0 l2 l4 ((((35 : Int32) + ((8 : Int32) * l2)) + l4)) v4 else
  if l4 = (7 : Int32) then fX10_readWed_157 k107 f l0 l2 l4 ((((35 : Int32) + ((8 : Int32) * l2)) + l4)) v4 else
  fX10_readWed_162 k107 f l0 l2 l4 ((0 : Int32)) ((((35 : Int32) + ((8 : Int32) * l2)) + l4)) v4 else
  (pz_gR f l0 9 21).bind fun v5 =>
  (pz_aI f v5 0 l4).bind fun v6 =>
  fX10_readWed_162 k107 f l0 l2 l4 v6 ((((35 : Int32) + ((8 : Int32) * l2)) + l4)) v4
theorem tX10_readWed_107b {G : pz_G} {C : pz_C} {f : pz_H} {k107 : pz_H → Nat → Int32 → Int32 → Option (Int32 × pz_H)} {l0 : Nat} {l2 : Int32} {l4 : Int32} {r : (Int32 × pz_H)} (hC : pz_OK G C cX10_readWed 5 RX10) (hK : pz_K C (some .boolean) 3 66 0 0) (hk107 : ∀ (g : pz_H) (a0 : Nat) (a2 : Int32) (a4 : Int32), k107 g a0 a2 a4 = some r → pz_W G C 5 107 [(0, .ref a0), (2, .int a2), (4, .int a4)] [] g 0 0 (pz_Q G C (some (.int r.1)) r.2 0 0)) (hf : fX10_readWed_107b k107 f l0 l2 l4 = some r) : pz_W G C 5 107 [(0, .ref l0), (2, .int l2), (4, .int l4)] [] f 0 0 (pz_Q G C (some (.int r.1)) r.2 0 0) := by
  unfold fX10_readWed_107b at hf
  refine pz_iload hC dX10_readWed_107 2 rfl ?_
  refine pz_bipush (v := (8 : Int32)) hC dX10_readWed_109 (by decide) ?_
  refine pz_icmp_ge hC dX10_readWed_111 hf (fun _ hf => ?_) (fun _ hf => ?_)
  · refine pz_aload_n hC dX10_readWed_169 0 rfl ?_
    refine pz_getR hC dX10_readWed_170 fa_X10_7 hf (fun v1 hf => ?_)
    refine pz_iconst (v := (4 : Int32)) hC dX10_readWed_173 (by decide) ?_
    refine pz_dup2 hC dX10_readWed_174 rfl rfl ?_
    refine pz_iald hC dX10_readWed_175 hf (fun v2 hf => ?_)
    refine pz_iconst (v := (1 : Int32)) hC dX10_readWed_176 (by decide) ?_
    refine pz_iadd hC dX10_readWed_177 ?_
    refine pz_iast hC dX10_readWed_178 hf (fun f3 hf => ?_)
    refine pz_iconst (v := (1 : Int32)) hC dX10_readWed_179 (by decide) ?_
    exact pz_zretw hC hK dX10_readWed_180 hf
  · refine pz_aload_n hC dX10_readWed_114 0 rfl ?_
    refine pz_getR hC dX10_readWed_115 fa_X10_7 hf (fun v4 hf => ?_)
    refine pz_bipush (v := (35 : Int32)) hC dX10_readWed_118 (by decide) ?_
    refine pz_bipush (v := (8 : Int32)) hC dX10_readWed_120 (by decide) ?_
    refine pz_iload_n hC dX10_readWed_122 1 rfl ?_
    refine pz_imul hC dX10_readWed_123 ?_
    refine pz_iadd hC dX10_readWed_124 ?_
    refine pz_iload hC dX10_readWed_125 2 rfl ?_
    refine pz_iadd hC dX10_readWed_127 ?_
    refine pz_iload hC dX10_readWed_128 2 rfl ?_
    refine pz_iconst (v := (2 : Int32)) hC dX10_readWed_130 (by decide) ?_
    refine pz_icmp_ge hC dX10_readWed_131 hf (fun _ hf => ?_) (fun _ hf => ?_)
    · refine pz_iload hC dX10_readWed_144 2 rfl ?_
      refine pz_iconst (v := (2 : Int32)) hC dX10_readWed_146 (by decide) ?_
      refine pz_icmp_eq hC dX10_readWed_147 hf (fun _ hf => ?_) (fun _ hf => ?_)
      · exact tX10_readWed_157 hC hK hk107 hf
      · refine pz_iload hC dX10_readWed_150 2 rfl ?_
        refine pz_bipush (v := (7 : Int32)) hC dX10_readWed_152 (by decide) ?_
        refine pz_icmp_ne hC dX10_readWed_154 hf (fun _ hf => ?_) (fun _ hf => ?_)
        · refine pz_iconst (v := (0 : Int32)) hC dX10_readWed_161 (by decide) ?_
          exact tX10_readWed_162 hC hK hk107 hf
        · exact tX10_readWed_157 hC hK hk107 hf
    · refine pz_aload_n hC dX10_readWed_134 0 rfl ?_
      refine pz_getR hC dX10_readWed_135 fa_X10_41 hf (fun v5 hf => ?_)
      refine pz_iload hC dX10_readWed_138 2 rfl ?_
      refine pz_iald hC dX10_readWed_140 hf (fun v6 hf => ?_)
      refine pz_goto hC dX10_readWed_141 ?_
      exact tX10_readWed_162 hC hK hk107 hf
def fX10_readWed_107 : Nat → pz_H → Nat → Int32 → Int32 → Option (Int32 × pz_H)
  | 0, _, _, _, _ => none
  | n + 1, f, l0, l2, l4 => fX10_readWed_107b (fX10_readWed_107 n) f l0 l2 l4
theorem tX10_readWed_107 {G : pz_G} {C : pz_C} {r : (Int32 × pz_H)} (hC : pz_OK G C cX10_readWed 5 RX10) (hK : pz_K C (some .boolean) 3 66 0 0) : ∀ (N : Nat) (f : pz_H) (l0 : Nat) (l2 : Int32) (l4 : Int32), fX10_readWed_107 N f l0 l2 l4 = some r → pz_W G C 5 107 [(0, .ref l0), (2, .int l2), (4, .int l4)] [] f 0 0 (pz_Q G C (some (.int r.1)) r.2 0 0) := by
  intro N
  induction N with
  | zero => intro f l0 l2 l4 hf; cases hf
  | succ N ih => intro f l0 l2 l4 hf; exact tX10_readWed_107b hC hK (fun f l0 l2 l4 hf => ih f l0 l2 l4 hf) hf
def fX10_readWed_104 (f : pz_H) (l0 : Nat) (l2 : Int32) : Option (Int32 × pz_H) :=
  fX10_readWed_107 pz_F f l0 l2 ((0 : Int32))
theorem tX10_readWed_104 {G : pz_G} {C : pz_C} {f : pz_H} {l0 : Nat} {l2 : Int32} {r : (Int32 × pz_H)} (hC : pz_OK G C cX10_readWed 5 RX10) (hK : pz_K C (some .boolean) 3 66 0 0) (hf : fX10_readWed_104 f l0 l2 = some r) : pz_W G C 5 104 [(0, .ref l0), (2, .int l2)] [] f 0 0 (pz_Q G C (some (.int r.1)) r.2 0 0) := by
  unfold fX10_readWed_104 at hf
  refine pz_iconst (v := (0 : Int32)) hC dX10_readWed_104 (by decide) ?_
  refine pz_istore hC dX10_readWed_105 (by decide) rfl ?_
  refine pz_sub [1, 2, 0] rfl ?_
  exact tX10_readWed_107 hC hK _ _ _ _ _ hf
def fnX10_readWed (f : pz_H) (a0 : Nat) (p1 : Int32) : Option (Int32 × pz_H) :=
  (pz_is f a0 9).bind fun _ =>
  (pz_gR f a0 9 1).bind fun v1 =>
  (pz_aI f v1 0 ((4 : Int32))).bind fun v2 =>
  if v2 = (4 : Int32) then (fnX10_fails f a0 ((3 : Int32)) p1).bind fun x14 =>
  (pz_b x14.1).bind fun x => some (x, x14.2) else
  (fnX10_month f a0 ((0 : Int32))).bind fun x3 =>
  if x3.1 = 0 then fX10_readWed_42 x3.2 else
  (fnX10_month x3.2 a0 ((1 : Int32))).bind fun x4 =>
  if x4.1 = 0 then fX10_readWed_42 x4.2 else
  (fnX10_ends x4.2 a0).bind fun x5 =>
  if x5.1 = 0 then fX10_readWed_42 x5.2 else
  (pz_gR x5.2 a0 9 21).bind fun v6 =>
  (pz_aI x5.2 v6 0 ((1 : Int32))).bind fun v7 =>
  (pz_gR x5.2 a0 9 21).bind fun v8 =>
  (pz_aI x5.2 v8 0 ((0 : Int32))).bind fun v9 =>
  if v7 < v9 then fX10_readWed_97 x5.2 a0 p1 else
  (pz_gR x5.2 a0 9 1).bind fun v10 =>
  (pz_aI x5.2 v10 0 ((0 : Int32))).bind fun v11 =>
  if v7 < v11 then fX10_readWed_97 x5.2 a0 p1 else
  if v2 ≤ 0 then fX10_readWed_104 x5.2 a0 v2 else
  (fnX10_isParted x5.2 a0 ((v2 - (1 : Int32)))).bind fun x12 =>
  if x12 = 0 then fX10_readWed_97 x5.2 a0 p1 else
  (fnX10_its x5.2 a0 ((v2 - (1 : Int32))) ((2 : Int32))).bind fun x13 =>
  if x13 ≤ v7 then fX10_readWed_104 x5.2 a0 v2 else
  fX10_readWed_97 x5.2 a0 p1
theorem mX10_readWed {l : Launch} {G : pz_G} {f : pz_H} {a0 : Nat} {p1 : Int32} {r : (Int32 × pz_H)} (hf : fnX10_readWed f a0 p1 = some r) : pz_Met l G yX10_readWed cX10_readWed 5 (some .boolean) 3 66 0 0 [.ref a0, .int p1] f (some (.int r.1)) r.2 ∧ pz_is f a0 9 = some () := by
  unfold fnX10_readWed at hf
  obtain ⟨_, h0, hf⟩ := pz_bd hf
  refine ⟨pz_enter (by decide +kernel) (Nat.le_of_ble_eq_true rfl) (fun C hl hC hK hnm => ?_), h0⟩
  subst hl
  refine pz_sub (lv' := [(0, .ref a0), (1, .int p1)]) [0, 1] rfl ?_
  refine pz_aload_n hC dX10_readWed_0 0 rfl ?_
  refine pz_getR hC dX10_readWed_1 fa_X10_7 hf (fun v1 hf => ?_)
  refine pz_iconst (v := (4 : Int32)) hC dX10_readWed_4 (by decide) ?_
  refine pz_iald hC dX10_readWed_5 hf (fun v2 hf => ?_)
  refine pz_istore_n hC dX10_readWed_6 (by decide) rfl ?_
  refine pz_iload_n hC dX10_readWed_7 0 rfl ?_
  refine pz_iconst (v := (4 : Int32)) hC dX10_readWed_8 (by decide) ?_
  refine pz_icmp_ne hC dX10_readWed_9 hf (fun _ hf => ?_) (fun _ hf => ?_)
  · refine pz_aload_n hC dX10_readWed_19 1 rfl ?_
    refine pz_iconst (v := (0 : Int32)) hC dX10_readWed_20 (by decide) ?_
    refine pz_Viw (As := [.int (0 : Int32)]) hC hK dX10_readWed_21 py_X10_month pv_X10_month lk_X10_247 hf (fun _ h => mX10_month h) rfl rfl (Nat.le_of_ble_eq_true rfl) ⟨by decide, by decide⟩ ⟨Nat.le_of_ble_eq_true rfl, Nat.le_of_ble_eq_true rfl⟩ (fun x3 hf => ?_)
    refine pz_if_eq hC dX10_readWed_24 hf (fun _ hf => ?_) (fun _ hf => ?_)
    · refine pz_sub [] rfl ?_
      exact tX10_readWed_42 hC hK hf
    · refine pz_aload_n hC dX10_readWed_27 1 rfl ?_
      refine pz_iconst (v := (1 : Int32)) hC dX10_readWed_28 (by decide) ?_
      refine pz_Viw (As := [.int (1 : Int32)]) hC hK dX10_readWed_29 py_X10_month pv_X10_month lk_X10_247 hf (fun _ h => mX10_month h) rfl rfl (Nat.le_of_ble_eq_true rfl) ⟨by decide, by decide⟩ ⟨Nat.le_of_ble_eq_true rfl, Nat.le_of_ble_eq_true rfl⟩ (fun x4 hf => ?_)
      refine pz_if_eq hC dX10_readWed_32 hf (fun _ hf => ?_) (fun _ hf => ?_)
      · refine pz_sub [] rfl ?_
        exact tX10_readWed_42 hC hK hf
      · refine pz_aload_n hC dX10_readWed_35 1 rfl ?_
        refine pz_Viw (As := []) hC hK dX10_readWed_36 py_X10_ends pv_X10_ends lk_X10_251 hf (fun _ h => mX10_ends h) rfl rfl (Nat.le_of_ble_eq_true rfl) ⟨by decide, by decide⟩ ⟨Nat.le_of_ble_eq_true rfl, Nat.le_of_ble_eq_true rfl⟩ (fun x5 hf => ?_)
        refine pz_if_ne hC dX10_readWed_39 hf (fun _ hf => ?_) (fun _ hf => ?_)
        · refine pz_aload_n hC dX10_readWed_44 1 rfl ?_
          refine pz_getR hC dX10_readWed_45 fa_X10_41 hf (fun v6 hf => ?_)
          refine pz_iconst (v := (1 : Int32)) hC dX10_readWed_48 (by decide) ?_
          refine pz_iald hC dX10_readWed_49 hf (fun v7 hf => ?_)
          refine pz_istore_n hC dX10_readWed_50 (by decide) rfl ?_
          refine pz_iload_n hC dX10_readWed_51 0 rfl ?_
          refine pz_aload_n hC dX10_readWed_52 2 rfl ?_
          refine pz_getR hC dX10_readWed_53 fa_X10_41 hf (fun v8 hf => ?_)
          refine pz_iconst (v := (0 : Int32)) hC dX10_readWed_56 (by decide) ?_
          refine pz_iald hC dX10_readWed_57 hf (fun v9 hf => ?_)
          refine pz_icmp_lt hC dX10_readWed_58 hf (fun _ hf => ?_) (fun _ hf => ?_)
          · refine pz_sub [2, 3] rfl ?_
            exact tX10_readWed_97 hC hK hf
          · refine pz_iload_n hC dX10_readWed_61 0 rfl ?_
            refine pz_aload_n hC dX10_readWed_62 2 rfl ?_
            refine pz_getR hC dX10_readWed_63 fa_X10_7 hf (fun v10 hf => ?_)
            refine pz_iconst (v := (0 : Int32)) hC dX10_readWed_66 (by decide) ?_
            refine pz_iald hC dX10_readWed_67 hf (fun v11 hf => ?_)
            refine pz_icmp_lt hC dX10_readWed_68 hf (fun _ hf => ?_) (fun _ hf => ?_)
            · refine pz_sub [2, 3] rfl ?_
              exact tX10_readWed_97 hC hK hf
            · refine pz_iload_n hC dX10_readWed_71 1 rfl ?_
              refine pz_if_le hC dX10_readWed_72 hf (fun _ hf => ?_) (fun _ hf => ?_)
              · refine pz_sub [2, 1] rfl ?_
                exact tX10_readWed_104 hC hK hf
              · refine pz_aload_n hC dX10_readWed_75 2 rfl ?_
                refine pz_iload_n hC dX10_readWed_76 1 rfl ?_
                refine pz_iconst (v := (1 : Int32)) hC dX10_readWed_77 (by decide) ?_
                refine pz_isub hC dX10_readWed_78 ?_
                refine pz_Vi (As := [.int (v2 - (1 : Int32))]) hC hK dX10_readWed_79 py_X10_isParted pv_X10_isParted lk_X10_91 hf (fun _ h => mX10_isParted h) rfl rfl (Nat.le_of_ble_eq_true rfl) ⟨by decide, by decide⟩ ⟨Nat.le_of_ble_eq_true rfl, Nat.le_of_ble_eq_true rfl⟩ (fun x12 hf => ?_)
                refine pz_if_eq hC dX10_readWed_82 hf (fun _ hf => ?_) (fun _ hf => ?_)
                · refine pz_sub [2, 3] rfl ?_
                  exact tX10_readWed_97 hC hK hf
                · refine pz_iload_n hC dX10_readWed_85 0 rfl ?_
                  refine pz_aload_n hC dX10_readWed_86 2 rfl ?_
                  refine pz_iload_n hC dX10_readWed_87 1 rfl ?_
                  refine pz_iconst (v := (1 : Int32)) hC dX10_readWed_88 (by decide) ?_
                  refine pz_isub hC dX10_readWed_89 ?_
                  refine pz_iconst (v := (2 : Int32)) hC dX10_readWed_90 (by decide) ?_
                  refine pz_Vi (As := [.int (v2 - (1 : Int32)), .int (2 : Int32)]) hC hK dX10_readWed_91 py_X10_its pv_X10_its lk_X10_56 hf (fun _ h => mX10_its h) rfl rfl (Nat.le_of_ble_eq_true rfl) ⟨by decide, by decide⟩ ⟨Nat.le_of_ble_eq_true rfl, Nat.le_of_ble_eq_true rfl⟩ (fun x13 hf => ?_)
                  refine pz_icmp_ge hC dX10_readWed_94 hf (fun _ hf => ?_) (fun _ hf => ?_)
                  · refine pz_sub [2, 1] rfl ?_
                    exact tX10_readWed_104 hC hK hf
                  · refine pz_sub [2, 3] rfl ?_
                    exact tX10_readWed_97 hC hK hf
        · refine pz_sub [] rfl ?_
          exact tX10_readWed_42 hC hK hf
  · refine pz_aload_n hC dX10_readWed_12 1 rfl ?_
    refine pz_iconst (v := (3 : Int32)) hC dX10_readWed_13 (by decide) ?_
    refine pz_iload_n hC dX10_readWed_14 2 rfl ?_
    refine pz_Viw (As := [.int (3 : Int32), .int p1]) hC hK dX10_readWed_15 py_X10_fails pv_X10_fails lk_X10_231 hf (fun _ h => mX10_fails h) rfl rfl (Nat.le_of_ble_eq_true rfl) ⟨by decide, by decide⟩ ⟨Nat.le_of_ble_eq_true rfl, Nat.le_of_ble_eq_true rfl⟩ (fun x14 hf => ?_)
    exact pz_zretw hC hK dX10_readWed_18 hf
def fX10_readPart_20 (f : pz_H) : Option (Int32 × pz_H) :=
  (pz_b ((0 : Int32))).bind fun x => some (x, f)
theorem tX10_readPart_20 {G : pz_G} {C : pz_C} {f : pz_H} {r : (Int32 × pz_H)} (hC : pz_OK G C cX10_readPart 5 RX10) (hK : pz_K C (some .boolean) 3 66 0 0) (hf : fX10_readPart_20 f = some r) : pz_W G C 5 20 [] [] f 0 0 (pz_Q G C (some (.int r.1)) r.2 0 0) := by
  unfold fX10_readPart_20 at hf
  refine pz_iconst (v := (0 : Int32)) hC dX10_readPart_20 (by decide) ?_
  exact pz_zretw hC hK dX10_readPart_21 hf
def fX10_readPart_96 (f : pz_H) : Option (Int32 × pz_H) :=
  (pz_b ((0 : Int32))).bind fun x => some (x, f)
theorem tX10_readPart_96 {G : pz_G} {C : pz_C} {f : pz_H} {r : (Int32 × pz_H)} (hC : pz_OK G C cX10_readPart 5 RX10) (hK : pz_K C (some .boolean) 3 66 0 0) (hf : fX10_readPart_96 f = some r) : pz_W G C 5 96 [] [] f 0 0 (pz_Q G C (some (.int r.1)) r.2 0 0) := by
  unfold fX10_readPart_96 at hf
  refine pz_iconst (v := (0 : Int32)) hC dX10_readPart_96 (by decide) ?_
  exact pz_zretw hC hK dX10_readPart_97 hf
def fX10_readPart_138 (f : pz_H) (l0 : Nat) (l1 : Int32) : Option (Int32 × pz_H) :=
  (fnX10_fails f l0 ((4 : Int32)) l1).bind fun x1 =>
  (pz_b x1.1).bind fun x => some (x, x1.2)
theorem tX10_readPart_138 {G : pz_G} {C : pz_C} {f : pz_H} {l0 : Nat} {l1 : Int32} {r : (Int32 × pz_H)} (hC : pz_OK G C cX10_readPart 5 RX10) (hK : pz_K C (some .boolean) 3 66 0 0) (hf : fX10_readPart_138 f l0 l1 = some r) : pz_W G C 5 138 [(0, .ref l0), (1, .int l1)] [] f 0 0 (pz_Q G C (some (.int r.1)) r.2 0 0) := by
  unfold fX10_readPart_138 at hf
  refine pz_aload_n hC dX10_readPart_138 0 rfl ?_
  refine pz_iconst (v := (4 : Int32)) hC dX10_readPart_139 (by decide) ?_
  refine pz_iload_n hC dX10_readPart_140 1 rfl ?_
  refine pz_Viw (As := [.int (4 : Int32), .int l1]) hC hK dX10_readPart_141 py_X10_fails pv_X10_fails lk_X10_231 hf (fun _ h => mX10_fails h) rfl rfl (Nat.le_of_ble_eq_true rfl) ⟨by decide, by decide⟩ ⟨Nat.le_of_ble_eq_true rfl, Nat.le_of_ble_eq_true rfl⟩ (fun x1 hf => ?_)
  exact pz_zretw hC hK dX10_readPart_144 hf
def fX10_readPart_214 (f : pz_H) (l0 : Nat) (l4 : Int32) (s0 : Int32) (s1 : Int32) (s2 : Nat) : Option (Int32 × pz_H) :=
  (pz_tI f s2 0 s1 s0).bind fun f1 =>
  (pz_gR f1 l0 9 1).bind fun v2 =>
  (pz_gR f1 l0 9 21).bind fun v3 =>
  (pz_aI f1 v3 0 ((2 : Int32))).bind fun v4 =>
  (pz_tI f1 v2 0 ((((35 : Int32) + ((8 : Int32) * l4)) + (5 : Int32))) v4).bind fun f5 =>
  (pz_b ((1 : Int32))).bind fun x => some (x, f5)
theorem tX10_readPart_214 {G : pz_G} {C : pz_C} {f : pz_H} {l0 : Nat} {l4 : Int32} {s0 : Int32} {s1 : Int32} {s2 : Nat} {r : (Int32 × pz_H)} (hC : pz_OK G C cX10_readPart 5 RX10) (hK : pz_K C (some .boolean) 3 66 0 0) (hf : fX10_readPart_214 f l0 l4 s0 s1 s2 = some r) : pz_W G C 5 214 [(0, .ref l0), (4, .int l4)] [.int s0, .int s1, .ref s2] f 0 0 (pz_Q G C (some (.int r.1)) r.2 0 0) := by
  unfold fX10_readPart_214 at hf
  refine pz_iast hC dX10_readPart_214 hf (fun f1 hf => ?_)
  refine pz_aload_n hC dX10_readPart_215 0 rfl ?_
  refine pz_getR hC dX10_readPart_216 fa_X10_7 hf (fun v2 hf => ?_)
  refine pz_bipush (v := (35 : Int32)) hC dX10_readPart_219 (by decide) ?_
  refine pz_bipush (v := (8 : Int32)) hC dX10_readPart_221 (by decide) ?_
  refine pz_iload hC dX10_readPart_223 1 rfl ?_
  refine pz_imul hC dX10_readPart_225 ?_
  refine pz_iadd hC dX10_readPart_226 ?_
  refine pz_iconst (v := (5 : Int32)) hC dX10_readPart_227 (by decide) ?_
  refine pz_iadd hC dX10_readPart_228 ?_
  refine pz_aload_n hC dX10_readPart_229 0 rfl ?_
  refine pz_getR hC dX10_readPart_230 fa_X10_41 hf (fun v3 hf => ?_)
  refine pz_iconst (v := (2 : Int32)) hC dX10_readPart_233 (by decide) ?_
  refine pz_iald hC dX10_readPart_234 hf (fun v4 hf => ?_)
  refine pz_iast hC dX10_readPart_235 hf (fun f5 hf => ?_)
  refine pz_iconst (v := (1 : Int32)) hC dX10_readPart_236 (by decide) ?_
  exact pz_zretw hC hK dX10_readPart_237 hf
def fX10_readPart_77 (f : pz_H) (l0 : Nat) (l1 : Int32) (l2 : Int64) : Option (Int32 × pz_H) :=
  (fnX10_number f l0 ((2 : Int32)) ((0 : Int32)) ((1000 : Int32))).bind fun x1 =>
  if x1.1 = 0 then fX10_readPart_96 x1.2 else
  (fnX10_ends x1.2 l0).bind fun x2 =>
  if x2.1 = 0 then fX10_readPart_96 x2.2 else
  (pz_gR x2.2 l0 9 1).bind fun v3 =>
  (pz_aI x2.2 v3 0 ((4 : Int32))).bind fun v4 =>
  if (v4 - (1 : Int32)) < 0 then fX10_readPart_138 x2.2 l0 l1 else
  (fnX10_isParted x2.2 l0 ((v4 - (1 : Int32)))).bind fun x5 =>
  if x5 = 0 then (pz_gR x2.2 l0 9 21).bind fun v6 =>
  (pz_aI x2.2 v6 0 ((0 : Int32))).bind fun v7 =>
  (fnX10_its x2.2 l0 ((v4 - (1 : Int32))) ((1 : Int32))).bind fun x8 =>
  if x8 < v7 then (pz_gR x2.2 l0 9 1).bind fun v9 =>
  (pz_gR x2.2 l0 9 21).bind fun v10 =>
  (pz_aI x2.2 v10 0 ((0 : Int32))).bind fun v11 =>
  (pz_tI x2.2 v9 0 ((((35 : Int32) + ((8 : Int32) * (v4 - (1 : Int32)))) + (2 : Int32))) v11).bind fun f12 =>
  (pz_gR f12 l0 9 1).bind fun v13 =>
  (pz_gR f12 l0 9 21).bind fun v14 =>
  (pz_aI f12 v14 0 ((1 : Int32))).bind fun v15 =>
  (pz_tI f12 v13 0 ((((35 : Int32) + ((8 : Int32) * (v4 - (1 : Int32)))) + (3 : Int32))) v15).bind fun f16 =>
  (pz_gR f16 l0 9 1).bind fun v17 =>
  if (lg_cmp l2 ((847604 : Int64))) = 0 then fX10_readPart_214 f16 l0 ((v4 - (1 : Int32))) ((1 : Int32)) ((((35 : Int32) + ((8 : Int32) * (v4 - (1 : Int32)))) + (4 : Int32))) v17 else
  fX10_readPart_214 f16 l0 ((v4 - (1 : Int32))) ((0 : Int32)) ((((35 : Int32) + ((8 : Int32) * (v4 - (1 : Int32)))) + (4 : Int32))) v17 else
  fX10_readPart_138 x2.2 l0 l1 else
  fX10_readPart_138 x2.2 l0 l1
theorem tX10_readPart_77 {G : pz_G} {C : pz_C} {f : pz_H} {l0 : Nat} {l1 : Int32} {l2 : Int64} {r : (Int32 × pz_H)} (hC : pz_OK G C cX10_readPart 5 RX10) (hK : pz_K C (some .boolean) 3 66 0 0) (hf : fX10_readPart_77 f l0 l1 l2 = some r) : pz_W G C 5 77 [(0, .ref l0), (1, .int l1), (2, .long l2)] [] f 0 0 (pz_Q G C (some (.int r.1)) r.2 0 0) := by
  unfold fX10_readPart_77 at hf
  refine pz_aload_n hC dX10_readPart_77 0 rfl ?_
  refine pz_iconst (v := (2 : Int32)) hC dX10_readPart_78 (by decide) ?_
  refine pz_iconst (v := (0 : Int32)) hC dX10_readPart_79 (by decide) ?_
  refine pz_sipush (v := (1000 : Int32)) hC dX10_readPart_80 (by decide) ?_
  refine pz_Viw (As := [.int (2 : Int32), .int (0 : Int32), .int (1000 : Int32)]) hC hK dX10_readPart_83 py_X10_number pv_X10_number lk_X10_240 hf (fun _ h => mX10_number h) rfl rfl (Nat.le_of_ble_eq_true rfl) ⟨by decide, by decide⟩ ⟨Nat.le_of_ble_eq_true rfl, Nat.le_of_ble_eq_true rfl⟩ (fun x1 hf => ?_)
  refine pz_if_eq hC dX10_readPart_86 hf (fun _ hf => ?_) (fun _ hf => ?_)
  · refine pz_sub [] rfl ?_
    exact tX10_readPart_96 hC hK hf
  · refine pz_aload_n hC dX10_readPart_89 0 rfl ?_
    refine pz_Viw (As := []) hC hK dX10_readPart_90 py_X10_ends pv_X10_ends lk_X10_251 hf (fun _ h => mX10_ends h) rfl rfl (Nat.le_of_ble_eq_true rfl) ⟨by decide, by decide⟩ ⟨Nat.le_of_ble_eq_true rfl, Nat.le_of_ble_eq_true rfl⟩ (fun x2 hf => ?_)
    refine pz_if_ne hC dX10_readPart_93 hf (fun _ hf => ?_) (fun _ hf => ?_)
    · refine pz_aload_n hC dX10_readPart_98 0 rfl ?_
      refine pz_getR hC dX10_readPart_99 fa_X10_7 hf (fun v3 hf => ?_)
      refine pz_iconst (v := (4 : Int32)) hC dX10_readPart_102 (by decide) ?_
      refine pz_iald hC dX10_readPart_103 hf (fun v4 hf => ?_)
      refine pz_iconst (v := (1 : Int32)) hC dX10_readPart_104 (by decide) ?_
      refine pz_isub hC dX10_readPart_105 ?_
      refine pz_istore hC dX10_readPart_106 (by decide) rfl ?_
      refine pz_iload hC dX10_readPart_108 0 rfl ?_
      refine pz_if_lt hC dX10_readPart_110 hf (fun _ hf => ?_) (fun _ hf => ?_)
      · refine pz_sub [1, 2] rfl ?_
        exact tX10_readPart_138 hC hK hf
      · refine pz_aload_n hC dX10_readPart_113 1 rfl ?_
        refine pz_iload hC dX10_readPart_114 0 rfl ?_
        refine pz_Vi (As := [.int (v4 - (1 : Int32))]) hC hK dX10_readPart_116 py_X10_isParted pv_X10_isParted lk_X10_91 hf (fun _ h => mX10_isParted h) rfl rfl (Nat.le_of_ble_eq_true rfl) ⟨by decide, by decide⟩ ⟨Nat.le_of_ble_eq_true rfl, Nat.le_of_ble_eq_true rfl⟩ (fun x5 hf => ?_)
        refine pz_if_ne hC dX10_readPart_119 hf (fun _ hf => ?_) (fun _ hf => ?_)
        · refine pz_sub [1, 2] rfl ?_
          exact tX10_readPart_138 hC hK hf
        · refine pz_aload_n hC dX10_readPart_122 1 rfl ?_
          refine pz_getR hC dX10_readPart_123 fa_X10_41 hf (fun v6 hf => ?_)
          refine pz_iconst (v := (0 : Int32)) hC dX10_readPart_126 (by decide) ?_
          refine pz_iald hC dX10_readPart_127 hf (fun v7 hf => ?_)
          refine pz_aload_n hC dX10_readPart_128 1 rfl ?_
          refine pz_iload hC dX10_readPart_129 0 rfl ?_
          refine pz_iconst (v := (1 : Int32)) hC dX10_readPart_131 (by decide) ?_
          refine pz_Vi (As := [.int (v4 - (1 : Int32)), .int (1 : Int32)]) hC hK dX10_readPart_132 py_X10_its pv_X10_its lk_X10_56 hf (fun _ h => mX10_its h) rfl rfl (Nat.le_of_ble_eq_true rfl) ⟨by decide, by decide⟩ ⟨Nat.le_of_ble_eq_true rfl, Nat.le_of_ble_eq_true rfl⟩ (fun x8 hf => ?_)
          refine pz_icmp_gt hC dX10_readPart_135 hf (fun _ hf => ?_) (fun _ hf => ?_)
          · refine pz_aload_n hC dX10_readPart_145 1 rfl ?_
            refine pz_getR hC dX10_readPart_146 fa_X10_7 hf (fun v9 hf => ?_)
            refine pz_bipush (v := (35 : Int32)) hC dX10_readPart_149 (by decide) ?_
            refine pz_bipush (v := (8 : Int32)) hC dX10_readPart_151 (by decide) ?_
            refine pz_iload hC dX10_readPart_153 0 rfl ?_
            refine pz_imul hC dX10_readPart_155 ?_
            refine pz_iadd hC dX10_readPart_156 ?_
            refine pz_iconst (v := (2 : Int32)) hC dX10_readPart_157 (by decide) ?_
            refine pz_iadd hC dX10_readPart_158 ?_
            refine pz_aload_n hC dX10_readPart_159 1 rfl ?_
            refine pz_getR hC dX10_readPart_160 fa_X10_41 hf (fun v10 hf => ?_)
            refine pz_iconst (v := (0 : Int32)) hC dX10_readPart_163 (by decide) ?_
            refine pz_iald hC dX10_readPart_164 hf (fun v11 hf => ?_)
            refine pz_iast hC dX10_readPart_165 hf (fun f12 hf => ?_)
            refine pz_aload_n hC dX10_readPart_166 1 rfl ?_
            refine pz_getR hC dX10_readPart_167 fa_X10_7 hf (fun v13 hf => ?_)
            refine pz_bipush (v := (35 : Int32)) hC dX10_readPart_170 (by decide) ?_
            refine pz_bipush (v := (8 : Int32)) hC dX10_readPart_172 (by decide) ?_
            refine pz_iload hC dX10_readPart_174 0 rfl ?_
            refine pz_imul hC dX10_readPart_176 ?_
            refine pz_iadd hC dX10_readPart_177 ?_
            refine pz_iconst (v := (3 : Int32)) hC dX10_readPart_178 (by decide) ?_
            refine pz_iadd hC dX10_readPart_179 ?_
            refine pz_aload_n hC dX10_readPart_180 1 rfl ?_
            refine pz_getR hC dX10_readPart_181 fa_X10_41 hf (fun v14 hf => ?_)
            refine pz_iconst (v := (1 : Int32)) hC dX10_readPart_184 (by decide) ?_
            refine pz_iald hC dX10_readPart_185 hf (fun v15 hf => ?_)
            refine pz_iast hC dX10_readPart_186 hf (fun f16 hf => ?_)
            refine pz_aload_n hC dX10_readPart_187 1 rfl ?_
            refine pz_getR hC dX10_readPart_188 fa_X10_7 hf (fun v17 hf => ?_)
            refine pz_bipush (v := (35 : Int32)) hC dX10_readPart_191 (by decide) ?_
            refine pz_bipush (v := (8 : Int32)) hC dX10_readPart_193 (by decide) ?_
            refine pz_iload hC dX10_readPart_195 0 rfl ?_
            refine pz_imul hC dX10_readPart_197 ?_
            refine pz_iadd hC dX10_readPart_198 ?_
            refine pz_iconst (v := (4 : Int32)) hC dX10_readPart_199 (by decide) ?_
            refine pz_iadd hC dX10_readPart_200 ?_
            refine pz_lload_n hC dX10_readPart_201 3 rfl ?_
            refine pz_ldc2 hC dX10_readPart_202 ck_X10_261 ?_
            refine pz_lcmp hC dX10_readPart_205 ?_
            refine pz_if_ne hC dX10_readPart_206 hf (fun _ hf => ?_) (fun _ hf => ?_)
            · refine pz_iconst (v := (0 : Int32)) hC dX10_readPart_213 (by decide) ?_
              refine pz_sub [1, 0] rfl ?_
              exact tX10_readPart_214 hC hK hf
            · refine pz_iconst (v := (1 : Int32)) hC dX10_readPart_209 (by decide) ?_
              refine pz_goto hC dX10_readPart_210 ?_
              refine pz_sub [1, 0] rfl ?_
              exact tX10_readPart_214 hC hK hf
          · refine pz_sub [1, 2] rfl ?_
            exact tX10_readPart_138 hC hK hf
    · refine pz_sub [] rfl ?_
      exact tX10_readPart_96 hC hK hf
def fnX10_readPart (f : pz_H) (a0 : Nat) (p1 : Int32) : Option (Int32 × pz_H) :=
  (pz_is f a0 9).bind fun _ =>
  (fnX10_month f a0 ((0 : Int32))).bind fun x1 =>
  if x1.1 = 0 then fX10_readPart_20 x1.2 else
  (fnX10_number x1.2 a0 ((1 : Int32)) ((0 : Int32)) ((1000 : Int32))).bind fun x2 =>
  if x2.1 = 0 then fX10_readPart_20 x2.2 else
  (fnX10_here x2.2 a0).bind fun x3 =>
  (fnX10_in x3.1 ((97 : Int32)) ((122 : Int32))).bind fun x4 =>
  if x4 = 0 then (pz_gI x3.2 a0 9 16).bind fun v8 =>
  (fnX10_fails x3.2 a0 ((1 : Int32)) v8).bind fun x9 =>
  (pz_b x9.1).bind fun x => some (x, x9.2) else
  (fnX10_readWord x3.2 a0).bind fun x5 =>
  if (lg_cmp x5.1 ((276913705 : Int64))) = 0 then fX10_readPart_77 x5.2 a0 p1 x5.1 else
  if (lg_cmp x5.1 ((847604 : Int64))) = 0 then fX10_readPart_77 x5.2 a0 p1 x5.1 else
  (pz_gI x5.2 a0 9 19).bind fun v6 =>
  (fnX10_fails x5.2 a0 ((1 : Int32)) v6).bind fun x7 =>
  (pz_b x7.1).bind fun x => some (x, x7.2)
theorem mX10_readPart {l : Launch} {G : pz_G} {f : pz_H} {a0 : Nat} {p1 : Int32} {r : (Int32 × pz_H)} (hf : fnX10_readPart f a0 p1 = some r) : pz_Met l G yX10_readPart cX10_readPart 5 (some .boolean) 3 66 0 0 [.ref a0, .int p1] f (some (.int r.1)) r.2 ∧ pz_is f a0 9 = some () := by
  unfold fnX10_readPart at hf
  obtain ⟨_, h0, hf⟩ := pz_bd hf
  refine ⟨pz_enter (by decide +kernel) (Nat.le_of_ble_eq_true rfl) (fun C hl hC hK hnm => ?_), h0⟩
  subst hl
  refine pz_sub (lv' := [(0, .ref a0), (1, .int p1)]) [0, 1] rfl ?_
  refine pz_aload_n hC dX10_readPart_0 0 rfl ?_
  refine pz_iconst (v := (0 : Int32)) hC dX10_readPart_1 (by decide) ?_
  refine pz_Viw (As := [.int (0 : Int32)]) hC hK dX10_readPart_2 py_X10_month pv_X10_month lk_X10_247 hf (fun _ h => mX10_month h) rfl rfl (Nat.le_of_ble_eq_true rfl) ⟨by decide, by decide⟩ ⟨Nat.le_of_ble_eq_true rfl, Nat.le_of_ble_eq_true rfl⟩ (fun x1 hf => ?_)
  refine pz_if_eq hC dX10_readPart_5 hf (fun _ hf => ?_) (fun _ hf => ?_)
  · refine pz_sub [] rfl ?_
    exact tX10_readPart_20 hC hK hf
  · refine pz_aload_n hC dX10_readPart_8 0 rfl ?_
    refine pz_iconst (v := (1 : Int32)) hC dX10_readPart_9 (by decide) ?_
    refine pz_iconst (v := (0 : Int32)) hC dX10_readPart_10 (by decide) ?_
    refine pz_sipush (v := (1000 : Int32)) hC dX10_readPart_11 (by decide) ?_
    refine pz_Viw (As := [.int (1 : Int32), .int (0 : Int32), .int (1000 : Int32)]) hC hK dX10_readPart_14 py_X10_number pv_X10_number lk_X10_240 hf (fun _ h => mX10_number h) rfl rfl (Nat.le_of_ble_eq_true rfl) ⟨by decide, by decide⟩ ⟨Nat.le_of_ble_eq_true rfl, Nat.le_of_ble_eq_true rfl⟩ (fun x2 hf => ?_)
    refine pz_if_ne hC dX10_readPart_17 hf (fun _ hf => ?_) (fun _ hf => ?_)
    · refine pz_aload_n hC dX10_readPart_22 0 rfl ?_
      refine pz_Viw (As := []) hC hK dX10_readPart_23 py_X10_here pv_X10_here lk_X10_228 hf (fun _ h => mX10_here h) rfl rfl (Nat.le_of_ble_eq_true rfl) ⟨by decide, by decide⟩ ⟨Nat.le_of_ble_eq_true rfl, Nat.le_of_ble_eq_true rfl⟩ (fun x3 hf => ?_)
      refine pz_bipush (v := (97 : Int32)) hC dX10_readPart_26 (by decide) ?_
      refine pz_bipush (v := (122 : Int32)) hC dX10_readPart_28 (by decide) ?_
      refine pz_Si (As := [.int x3.1, .int (97 : Int32), .int (122 : Int32)]) hC hK dX10_readPart_30 py_X10_in ps_X10_in lk_X10_52 hf (fun _ h => mX10_in h) rfl rfl (Nat.le_of_ble_eq_true rfl) ⟨by decide, by decide⟩ ⟨by decide, by decide⟩ (fun x4 hf => ?_)
      refine pz_if_ne hC dX10_readPart_33 hf (fun _ hf => ?_) (fun _ hf => ?_)
      · refine pz_aload_n hC dX10_readPart_46 0 rfl ?_
        refine pz_Vlw (As := []) hC hK dX10_readPart_47 py_X10_readWord pv_X10_readWord lk_X10_255 hf (fun _ h => mX10_readWord h) rfl rfl (Nat.le_of_ble_eq_true rfl) ⟨by decide, by decide⟩ ⟨Nat.le_of_ble_eq_true rfl, Nat.le_of_ble_eq_true rfl⟩ (fun x5 hf => ?_)
        refine pz_lstore_n hC dX10_readPart_50 (by decide) rfl ?_
        refine pz_lload_n hC dX10_readPart_51 0 rfl ?_
        refine pz_ldc2 hC dX10_readPart_52 ck_X10_259 ?_
        refine pz_lcmp hC dX10_readPart_55 ?_
        refine pz_if_eq hC dX10_readPart_56 hf (fun _ hf => ?_) (fun _ hf => ?_)
        · refine pz_sub [1, 2, 0] rfl ?_
          exact tX10_readPart_77 hC hK hf
        · refine pz_lload_n hC dX10_readPart_59 0 rfl ?_
          refine pz_ldc2 hC dX10_readPart_60 ck_X10_261 ?_
          refine pz_lcmp hC dX10_readPart_63 ?_
          refine pz_if_eq hC dX10_readPart_64 hf (fun _ hf => ?_) (fun _ hf => ?_)
          · refine pz_sub [1, 2, 0] rfl ?_
            exact tX10_readPart_77 hC hK hf
          · refine pz_aload_n hC dX10_readPart_67 1 rfl ?_
            refine pz_iconst (v := (1 : Int32)) hC dX10_readPart_68 (by decide) ?_
            refine pz_aload_n hC dX10_readPart_69 1 rfl ?_
            refine pz_getI hC dX10_readPart_70 fa_X10_234 hf (fun v6 hf => ?_)
            refine pz_Viw (As := [.int (1 : Int32), .int v6]) hC hK dX10_readPart_73 py_X10_fails pv_X10_fails lk_X10_231 hf (fun _ h => mX10_fails h) rfl rfl (Nat.le_of_ble_eq_true rfl) ⟨by decide, by decide⟩ ⟨Nat.le_of_ble_eq_true rfl, Nat.le_of_ble_eq_true rfl⟩ (fun x7 hf => ?_)
            exact pz_zretw hC hK dX10_readPart_76 hf
      · refine pz_aload_n hC dX10_readPart_36 0 rfl ?_
        refine pz_iconst (v := (1 : Int32)) hC dX10_readPart_37 (by decide) ?_
        refine pz_aload_n hC dX10_readPart_38 0 rfl ?_
        refine pz_getI hC dX10_readPart_39 fa_X10_222 hf (fun v8 hf => ?_)
        refine pz_Viw (As := [.int (1 : Int32), .int v8]) hC hK dX10_readPart_42 py_X10_fails pv_X10_fails lk_X10_231 hf (fun _ h => mX10_fails h) rfl rfl (Nat.le_of_ble_eq_true rfl) ⟨by decide, by decide⟩ ⟨Nat.le_of_ble_eq_true rfl, Nat.le_of_ble_eq_true rfl⟩ (fun x9 hf => ?_)
        exact pz_zretw hC hK dX10_readPart_45 hf
    · refine pz_sub [] rfl ?_
      exact tX10_readPart_20 hC hK hf
def fX10_readLives_29 (f : pz_H) : Option (Int32 × pz_H) :=
  (pz_b ((0 : Int32))).bind fun x => some (x, f)
theorem tX10_readLives_29 {G : pz_G} {C : pz_C} {f : pz_H} {r : (Int32 × pz_H)} (hC : pz_OK G C cX10_readLives 7 RX10) (hK : pz_K C (some .boolean) 2 45 0 0) (hf : fX10_readLives_29 f = some r) : pz_W G C 7 29 [] [] f 0 0 (pz_Q G C (some (.int r.1)) r.2 0 0) := by
  unfold fX10_readLives_29 at hf
  refine pz_iconst (v := (0 : Int32)) hC dX10_readLives_29 (by decide) ?_
  exact pz_zretw hC hK dX10_readLives_30 hf
def fX10_readLives_155 (k43 : pz_H → Nat → Int32 → Int32 → Int32 → Int32 → Option (Int32 × pz_H)) (f : pz_H) (l0 : Nat) (l1 : Int32) (l2 : Int32) (l4 : Int32) (s0 : Int32) : Option (Int32 × pz_H) :=
  k43 f l0 l1 l2 s0 ((l4 + 1))
theorem tX10_readLives_155 {G : pz_G} {C : pz_C} {f : pz_H} {k43 : pz_H → Nat → Int32 → Int32 → Int32 → Int32 → Option (Int32 × pz_H)} {l0 : Nat} {l1 : Int32} {l2 : Int32} {l4 : Int32} {s0 : Int32} {r : (Int32 × pz_H)} (hC : pz_OK G C cX10_readLives 7 RX10) (hK : pz_K C (some .boolean) 2 45 0 0) (hk43 : ∀ (g : pz_H) (a0 : Nat) (a1 : Int32) (a2 : Int32) (a3 : Int32) (a4 : Int32), k43 g a0 a1 a2 a3 a4 = some r → pz_W G C 7 43 [(0, .ref a0), (1, .int a1), (2, .int a2), (3, .int a3), (4, .int a4)] [] g 0 0 (pz_Q G C (some (.int r.1)) r.2 0 0)) (hf : fX10_readLives_155 k43 f l0 l1 l2 l4 s0 = some r) : pz_W G C 7 155 [(0, .ref l0), (1, .int l1), (2, .int l2), (4, .int l4)] [.int s0] f 0 0 (pz_Q G C (some (.int r.1)) r.2 0 0) := by
  unfold fX10_readLives_155 at hf
  refine pz_istore_n hC dX10_readLives_155 (by decide) rfl ?_
  refine pz_iinc (v := (l4 + 1)) hC dX10_readLives_156 4 rfl rfl (by decide) rfl ?_
  refine pz_goto hC dX10_readLives_159 ?_
  refine pz_sub [2, 3, 4, 1, 0] rfl ?_
  exact hk43 _ _ _ _ _ _ hf
def fX10_readLives_150 (k43 : pz_H → Nat → Int32 → Int32 → Int32 → Int32 → Option (Int32 × pz_H)) (f : pz_H) (l0 : Nat) (l1 : Int32) (l2 : Int32) (l4 : Int32) : Option (Int32 × pz_H) :=
  fX10_readLives_155 k43 f l0 l1 l2 l4 ((1 : Int32))
theorem tX10_readLives_150 {G : pz_G} {C : pz_C} {f : pz_H} {k43 : pz_H → Nat → Int32 → Int32 → Int32 → Int32 → Option (Int32 × pz_H)} {l0 : Nat} {l1 : Int32} {l2 : Int32} {l4 : Int32} {r : (Int32 × pz_H)} (hC : pz_OK G C cX10_readLives 7 RX10) (hK : pz_K C (some .boolean) 2 45 0 0) (hk43 : ∀ (g : pz_H) (a0 : Nat) (a1 : Int32) (a2 : Int32) (a3 : Int32) (a4 : Int32), k43 g a0 a1 a2 a3 a4 = some r → pz_W G C 7 43 [(0, .ref a0), (1, .int a1), (2, .int a2), (3, .int a3), (4, .int a4)] [] g 0 0 (pz_Q G C (some (.int r.1)) r.2 0 0)) (hf : fX10_readLives_150 k43 f l0 l1 l2 l4 = some r) : pz_W G C 7 150 [(0, .ref l0), (1, .int l1), (2, .int l2), (4, .int l4)] [] f 0 0 (pz_Q G C (some (.int r.1)) r.2 0 0) := by
  unfold fX10_readLives_150 at hf
  refine pz_iconst (v := (1 : Int32)) hC dX10_readLives_150 (by decide) ?_
  refine pz_goto hC dX10_readLives_151 ?_
  exact tX10_readLives_155 hC hK hk43 hf
def fX10_readLives_154 (k43 : pz_H → Nat → Int32 → Int32 → Int32 → Int32 → Option (Int32 × pz_H)) (f : pz_H) (l0 : Nat) (l1 : Int32) (l2 : Int32) (l4 : Int32) : Option (Int32 × pz_H) :=
  fX10_readLives_155 k43 f l0 l1 l2 l4 ((0 : Int32))
theorem tX10_readLives_154 {G : pz_G} {C : pz_C} {f : pz_H} {k43 : pz_H → Nat → Int32 → Int32 → Int32 → Int32 → Option (Int32 × pz_H)} {l0 : Nat} {l1 : Int32} {l2 : Int32} {l4 : Int32} {r : (Int32 × pz_H)} (hC : pz_OK G C cX10_readLives 7 RX10) (hK : pz_K C (some .boolean) 2 45 0 0) (hk43 : ∀ (g : pz_H) (a0 : Nat) (a1 : Int32) (a2 : Int32) (a3 : Int32) (a4 : Int32), k43 g a0 a1 a2 a3 a4 = some r → pz_W G C 7 43 [(0, .ref a0), (1, .int a1), (2, .int a2), (3, .int a3), (4, .int a4)] [] g 0 0 (pz_Q G C (some (.int r.1)) r.2 0 0)) (hf : fX10_readLives_154 k43 f l0 l1 l2 l4 = some r) : pz_W G C 7 154 [(0, .ref l0), (1, .int l1), (2, .int l2), (4, .int l4)] [] f 0 0 (pz_Q G C (some (.int r.1)) r.2 0 0) := by
  unfold fX10_readLives_154 at hf
  refine pz_iconst (v := (0 : Int32)) hC dX10_readLives_154 (by decide) ?_
  exact tX10_readLives_155 hC hK hk43 hf
def fX10_readLives_128 (k43 : pz_H → Nat → Int32 → Int32 → Int32 → Int32 → Option (Int32 × pz_H)) (f : pz_H) (l0 : Nat) (l1 : Int32) (l2 : Int32) (l4 : Int32) (l5 : Int32) (l6 : Int32) : Option (Int32 × pz_H) :=
  (pz_gR f l0 9 21).bind fun v1 =>
  (pz_aI f v1 0 ((0 : Int32))).bind fun v2 =>
  if l5 ≤ v2 then fX10_readLives_150 k43 f l0 l1 l2 l4 else
  (pz_gR f l0 9 21).bind fun v3 =>
  (pz_aI f v3 0 ((1 : Int32))).bind fun v4 =>
  if v4 < l6 then fX10_readLives_154 k43 f l0 l1 l2 l4 else
  fX10_readLives_150 k43 f l0 l1 l2 l4
theorem tX10_readLives_128 {G : pz_G} {C : pz_C} {f : pz_H} {k43 : pz_H → Nat → Int32 → Int32 → Int32 → Int32 → Option (Int32 × pz_H)} {l0 : Nat} {l1 : Int32} {l2 : Int32} {l4 : Int32} {l5 : Int32} {l6 : Int32} {r : (Int32 × pz_H)} (hC : pz_OK G C cX10_readLives 7 RX10) (hK : pz_K C (some .boolean) 2 45 0 0) (hk43 : ∀ (g : pz_H) (a0 : Nat) (a1 : Int32) (a2 : Int32) (a3 : Int32) (a4 : Int32), k43 g a0 a1 a2 a3 a4 = some r → pz_W G C 7 43 [(0, .ref a0), (1, .int a1), (2, .int a2), (3, .int a3), (4, .int a4)] [] g 0 0 (pz_Q G C (some (.int r.1)) r.2 0 0)) (hf : fX10_readLives_128 k43 f l0 l1 l2 l4 l5 l6 = some r) : pz_W G C 7 128 [(0, .ref l0), (1, .int l1), (2, .int l2), (4, .int l4), (5, .int l5), (6, .int l6)] [] f 0 0 (pz_Q G C (some (.int r.1)) r.2 0 0) := by
  unfold fX10_readLives_128 at hf
  refine pz_iload hC dX10_readLives_128 4 rfl ?_
  refine pz_aload_n hC dX10_readLives_130 0 rfl ?_
  refine pz_getR hC dX10_readLives_131 fa_X10_41 hf (fun v1 hf => ?_)
  refine pz_iconst (v := (0 : Int32)) hC dX10_readLives_134 (by decide) ?_
  refine pz_iald hC dX10_readLives_135 hf (fun v2 hf => ?_)
  refine pz_icmp_le hC dX10_readLives_136 hf (fun _ hf => ?_) (fun _ hf => ?_)
  · refine pz_sub [0, 1, 2, 3] rfl ?_
    exact tX10_readLives_150 hC hK hk43 hf
  · refine pz_aload_n hC dX10_readLives_139 0 rfl ?_
    refine pz_getR hC dX10_readLives_140 fa_X10_41 hf (fun v3 hf => ?_)
    refine pz_iconst (v := (1 : Int32)) hC dX10_readLives_143 (by decide) ?_
    refine pz_iald hC dX10_readLives_144 hf (fun v4 hf => ?_)
    refine pz_iload hC dX10_readLives_145 5 rfl ?_
    refine pz_icmp_lt hC dX10_readLives_147 hf (fun _ hf => ?_) (fun _ hf => ?_)
    · refine pz_sub [0, 1, 2, 3] rfl ?_
      exact tX10_readLives_154 hC hK hk43 hf
    · refine pz_sub [0, 1, 2, 3] rfl ?_
      exact tX10_readLives_150 hC hK hk43 hf
def fX10_readLives_101 (k43 : pz_H → Nat → Int32 → Int32 → Int32 → Int32 → Option (Int32 × pz_H)) (f : pz_H) (l0 : Nat) (l1 : Int32) (l3 : Int32) (l4 : Int32) (l5 : Int32) (l6 : Int32) (s0 : Int32) : Option (Int32 × pz_H) :=
  if l3 = 0 then fX10_readLives_154 k43 f l0 l1 s0 l4 else
  (pz_gR f l0 9 21).bind fun v1 =>
  (pz_aI f v1 0 ((0 : Int32))).bind fun v2 =>
  if v2 ≤ l5 then fX10_readLives_128 k43 f l0 l1 s0 l4 l5 l6 else
  (pz_gR f l0 9 21).bind fun v3 =>
  (pz_aI f v3 0 ((1 : Int32))).bind fun v4 =>
  if l6 < v4 then fX10_readLives_154 k43 f l0 l1 s0 l4 else
  fX10_readLives_128 k43 f l0 l1 s0 l4 l5 l6
theorem tX10_readLives_101 {G : pz_G} {C : pz_C} {f : pz_H} {k43 : pz_H → Nat → Int32 → Int32 → Int32 → Int32 → Option (Int32 × pz_H)} {l0 : Nat} {l1 : Int32} {l3 : Int32} {l4 : Int32} {l5 : Int32} {l6 : Int32} {s0 : Int32} {r : (Int32 × pz_H)} (hC : pz_OK G C cX10_readLives 7 RX10) (hK : pz_K C (some .boolean) 2 45 0 0) (hk43 : ∀ (g : pz_H) (a0 : Nat) (a1 : Int32) (a2 : Int32) (a3 : Int32) (a4 : Int32), k43 g a0 a1 a2 a3 a4 = some r → pz_W G C 7 43 [(0, .ref a0), (1, .int a1), (2, .int a2), (3, .int a3), (4, .int a4)] [] g 0 0 (pz_Q G C (some (.int r.1)) r.2 0 0)) (hf : fX10_readLives_101 k43 f l0 l1 l3 l4 l5 l6 s0 = some r) : pz_W G C 7 101 [(0, .ref l0), (1, .int l1), (3, .int l3), (4, .int l4), (5, .int l5), (6, .int l6)] [.int s0] f 0 0 (pz_Q G C (some (.int r.1)) r.2 0 0) := by
  unfold fX10_readLives_101 at hf
  refine pz_istore_n hC dX10_readLives_101 (by decide) rfl ?_
  refine pz_iload_n hC dX10_readLives_102 3 rfl ?_
  refine pz_if_eq hC dX10_readLives_103 hf (fun _ hf => ?_) (fun _ hf => ?_)
  · refine pz_sub [1, 2, 0, 4] rfl ?_
    exact tX10_readLives_154 hC hK hk43 hf
  · refine pz_iload hC dX10_readLives_106 5 rfl ?_
    refine pz_aload_n hC dX10_readLives_108 1 rfl ?_
    refine pz_getR hC dX10_readLives_109 fa_X10_41 hf (fun v1 hf => ?_)
    refine pz_iconst (v := (0 : Int32)) hC dX10_readLives_112 (by decide) ?_
    refine pz_iald hC dX10_readLives_113 hf (fun v2 hf => ?_)
    refine pz_icmp_ge hC dX10_readLives_114 hf (fun _ hf => ?_) (fun _ hf => ?_)
    · refine pz_sub [1, 2, 0, 4, 5, 6] rfl ?_
      exact tX10_readLives_128 hC hK hk43 hf
    · refine pz_aload_n hC dX10_readLives_117 1 rfl ?_
      refine pz_getR hC dX10_readLives_118 fa_X10_41 hf (fun v3 hf => ?_)
      refine pz_iconst (v := (1 : Int32)) hC dX10_readLives_121 (by decide) ?_
      refine pz_iald hC dX10_readLives_122 hf (fun v4 hf => ?_)
      refine pz_iload hC dX10_readLives_123 6 rfl ?_
      refine pz_icmp_gt hC dX10_readLives_125 hf (fun _ hf => ?_) (fun _ hf => ?_)
      · refine pz_sub [1, 2, 0, 4] rfl ?_
        exact tX10_readLives_154 hC hK hk43 hf
      · refine pz_sub [1, 2, 0, 4, 5, 6] rfl ?_
        exact tX10_readLives_128 hC hK hk43 hf
def fX10_readLives_172 (f : pz_H) (l0 : Nat) (l1 : Int32) : Option (Int32 × pz_H) :=
  (fnX10_fails f l0 ((4 : Int32)) l1).bind fun x1 =>
  (pz_b x1.1).bind fun x => some (x, x1.2)
theorem tX10_readLives_172 {G : pz_G} {C : pz_C} {f : pz_H} {l0 : Nat} {l1 : Int32} {r : (Int32 × pz_H)} (hC : pz_OK G C cX10_readLives 7 RX10) (hK : pz_K C (some .boolean) 2 45 0 0) (hf : fX10_readLives_172 f l0 l1 = some r) : pz_W G C 7 172 [(0, .ref l0), (1, .int l1)] [] f 0 0 (pz_Q G C (some (.int r.1)) r.2 0 0) := by
  unfold fX10_readLives_172 at hf
  refine pz_aload_n hC dX10_readLives_172 0 rfl ?_
  refine pz_iconst (v := (4 : Int32)) hC dX10_readLives_173 (by decide) ?_
  refine pz_iload_n hC dX10_readLives_174 1 rfl ?_
  refine pz_Viw (As := [.int (4 : Int32), .int l1]) hC hK dX10_readLives_175 py_X10_fails pv_X10_fails lk_X10_231 hf (fun _ h => mX10_fails h) rfl rfl (Nat.le_of_ble_eq_true rfl) ⟨by decide, by decide⟩ ⟨Nat.le_of_ble_eq_true rfl, Nat.le_of_ble_eq_true rfl⟩ (fun x1 hf => ?_)
  exact pz_zretw hC hK dX10_readLives_178 hf
def fX10_readLives_201 (f : pz_H) (l0 : Nat) (l2 : Int32) (s0 : Int32) (s1 : Int32) (s2 : Int32) (s3 : Nat) : Option (Int32 × pz_H) :=
  (pz_tI f s3 0 s2 ((s1 + s0))).bind fun f1 =>
  (pz_gR f1 l0 9 1).bind fun v2 =>
  (pz_gR f1 l0 9 21).bind fun v3 =>
  (pz_aI f1 v3 0 ((0 : Int32))).bind fun v4 =>
  (pz_tI f1 v2 0 (((67 : Int32) + ((2 : Int32) * l2))) v4).bind fun f5 =>
  (pz_gR f5 l0 9 1).bind fun v6 =>
  (pz_gR f5 l0 9 21).bind fun v7 =>
  (pz_aI f5 v7 0 ((1 : Int32))).bind fun v8 =>
  (pz_tI f5 v6 0 ((((67 : Int32) + ((2 : Int32) * l2)) + (1 : Int32))) v8).bind fun f9 =>
  (pz_b ((1 : Int32))).bind fun x => some (x, f9)
theorem tX10_readLives_201 {G : pz_G} {C : pz_C} {f : pz_H} {l0 : Nat} {l2 : Int32} {s0 : Int32} {s1 : Int32} {s2 : Int32} {s3 : Nat} {r : (Int32 × pz_H)} (hC : pz_OK G C cX10_readLives 7 RX10) (hK : pz_K C (some .boolean) 2 45 0 0) (hf : fX10_readLives_201 f l0 l2 s0 s1 s2 s3 = some r) : pz_W G C 7 201 [(0, .ref l0), (2, .int l2)] [.int s0, .int s1, .int s2, .ref s3] f 0 0 (pz_Q G C (some (.int r.1)) r.2 0 0) := by
  unfold fX10_readLives_201 at hf
  refine pz_iadd hC dX10_readLives_201 ?_
  refine pz_iast hC dX10_readLives_202 hf (fun f1 hf => ?_)
  refine pz_aload_n hC dX10_readLives_203 0 rfl ?_
  refine pz_getR hC dX10_readLives_204 fa_X10_7 hf (fun v2 hf => ?_)
  refine pz_bipush (v := (67 : Int32)) hC dX10_readLives_207 (by decide) ?_
  refine pz_iconst (v := (2 : Int32)) hC dX10_readLives_209 (by decide) ?_
  refine pz_iload_n hC dX10_readLives_210 1 rfl ?_
  refine pz_imul hC dX10_readLives_211 ?_
  refine pz_iadd hC dX10_readLives_212 ?_
  refine pz_aload_n hC dX10_readLives_213 0 rfl ?_
  refine pz_getR hC dX10_readLives_214 fa_X10_41 hf (fun v3 hf => ?_)
  refine pz_iconst (v := (0 : Int32)) hC dX10_readLives_217 (by decide) ?_
  refine pz_iald hC dX10_readLives_218 hf (fun v4 hf => ?_)
  refine pz_iast hC dX10_readLives_219 hf (fun f5 hf => ?_)
  refine pz_aload_n hC dX10_readLives_220 0 rfl ?_
  refine pz_getR hC dX10_readLives_221 fa_X10_7 hf (fun v6 hf => ?_)
  refine pz_bipush (v := (67 : Int32)) hC dX10_readLives_224 (by decide) ?_
  refine pz_iconst (v := (2 : Int32)) hC dX10_readLives_226 (by decide) ?_
  refine pz_iload_n hC dX10_readLives_227 1 rfl ?_
  refine pz_imul hC dX10_readLives_228 ?_
  refine pz_iadd hC dX10_readLives_229 ?_
  refine pz_iconst (v := (1 : Int32)) hC dX10_readLives_230 (by decide) ?_
  refine pz_iadd hC dX10_readLives_231 ?_
  refine pz_aload_n hC dX10_readLives_232 0 rfl ?_
  refine pz_getR hC dX10_readLives_233 fa_X10_41 hf (fun v7 hf => ?_)
  refine pz_iconst (v := (1 : Int32)) hC dX10_readLives_236 (by decide) ?_
  refine pz_iald hC dX10_readLives_237 hf (fun v8 hf => ?_)
  refine pz_iast hC dX10_readLives_238 hf (fun f9 hf => ?_)
  refine pz_iconst (v := (1 : Int32)) hC dX10_readLives_239 (by decide) ?_
  exact pz_zretw hC hK dX10_readLives_240 hf
def fX10_readLives_43b (k43 : pz_H → Nat → Int32 → Int32 → Int32 → Int32 → Option (Int32 × pz_H)) (f : pz_H) (l0 : Nat) (l1 : Int32) (l2 : Int32) (l3 : Int32) (l4 : Int32) : Option (Int32 × pz_H) :=
  (pz_gR f l0 9 1).bind fun v1 =>
  (pz_aI f v1 0 ((5 : Int32))).bind fun v2 =>
  if v2 ≤ l4 then if l3 = 0 then fX10_readLives_172 f l0 l1 else
  if l2 = (10 : Int32) then fX10_readLives_172 f l0 l1 else
  (pz_gR f l0 9 1).bind fun v3 =>
  (pz_aI f v3 0 ((5 : Int32))).bind fun v4 =>
  (pz_gR f l0 9 1).bind fun v5 =>
  (pz_aI f v5 0 ((5 : Int32))).bind fun v6 =>
  if l2 = v6 then fX10_readLives_201 f l0 l2 ((1 : Int32)) v4 ((5 : Int32)) v3 else
  fX10_readLives_201 f l0 l2 ((0 : Int32)) v4 ((5 : Int32)) v3 else
  (pz_gR f l0 9 1).bind fun v7 =>
  (pz_aI f v7 0 (((67 : Int32) + ((2 : Int32) * l4)))).bind fun v8 =>
  (pz_gR f l0 9 1).bind fun v9 =>
  (pz_aI f v9 0 ((((67 : Int32) + ((2 : Int32) * l4)) + (1 : Int32)))).bind fun v10 =>
  (pz_gR f l0 9 21).bind fun v11 =>
  (pz_aI f v11 0 ((0 : Int32))).bind fun v12 =>
  if v8 = v12 then fX10_readLives_101 k43 f l0 l1 l3 l4 v8 v10 l4 else
  fX10_readLives_101 k43 f l0 l1 l3 l4 v8 v10 l2
theorem tX10_readLives_43b {G : pz_G} {C : pz_C} {f : pz_H} {k43 : pz_H → Nat → Int32 → Int32 → Int32 → Int32 → Option (Int32 × pz_H)} {l0 : Nat} {l1 : Int32} {l2 : Int32} {l3 : Int32} {l4 : Int32} {r : (Int32 × pz_H)} (hC : pz_OK G C cX10_readLives 7 RX10) (hK : pz_K C (some .boolean) 2 45 0 0) (hk43 : ∀ (g : pz_H) (a0 : Nat) (a1 : Int32) (a2 : Int32) (a3 : Int32) (a4 : Int32), k43 g a0 a1 a2 a3 a4 = some r → pz_W G C 7 43 [(0, .ref a0), (1, .int a1), (2, .int a2), (3, .int a3), (4, .int a4)] [] g 0 0 (pz_Q G C (some (.int r.1)) r.2 0 0)) (hf : fX10_readLives_43b k43 f l0 l1 l2 l3 l4 = some r) : pz_W G C 7 43 [(0, .ref l0), (1, .int l1), (2, .int l2), (3, .int l3), (4, .int l4)] [] f 0 0 (pz_Q G C (some (.int r.1)) r.2 0 0) := by
  unfold fX10_readLives_43b at hf
  refine pz_iload hC dX10_readLives_43 4 rfl ?_
  refine pz_aload_n hC dX10_readLives_45 0 rfl ?_
  refine pz_getR hC dX10_readLives_46 fa_X10_7 hf (fun v1 hf => ?_)
  refine pz_iconst (v := (5 : Int32)) hC dX10_readLives_49 (by decide) ?_
  refine pz_iald hC dX10_readLives_50 hf (fun v2 hf => ?_)
  refine pz_icmp_ge hC dX10_readLives_51 hf (fun _ hf => ?_) (fun _ hf => ?_)
  · refine pz_iload_n hC dX10_readLives_162 3 rfl ?_
    refine pz_if_eq hC dX10_readLives_163 hf (fun _ hf => ?_) (fun _ hf => ?_)
    · refine pz_sub [0, 1] rfl ?_
      exact tX10_readLives_172 hC hK hf
    · refine pz_iload_n hC dX10_readLives_166 2 rfl ?_
      refine pz_bipush (v := (10 : Int32)) hC dX10_readLives_167 (by decide) ?_
      refine pz_icmp_ne hC dX10_readLives_169 hf (fun _ hf => ?_) (fun _ hf => ?_)
      · refine pz_aload_n hC dX10_readLives_179 0 rfl ?_
        refine pz_getR hC dX10_readLives_180 fa_X10_7 hf (fun v3 hf => ?_)
        refine pz_iconst (v := (5 : Int32)) hC dX10_readLives_183 (by decide) ?_
        refine pz_dup2 hC dX10_readLives_184 rfl rfl ?_
        refine pz_iald hC dX10_readLives_185 hf (fun v4 hf => ?_)
        refine pz_iload_n hC dX10_readLives_186 2 rfl ?_
        refine pz_aload_n hC dX10_readLives_187 0 rfl ?_
        refine pz_getR hC dX10_readLives_188 fa_X10_7 hf (fun v5 hf => ?_)
        refine pz_iconst (v := (5 : Int32)) hC dX10_readLives_191 (by decide) ?_
        refine pz_iald hC dX10_readLives_192 hf (fun v6 hf => ?_)
        refine pz_icmp_ne hC dX10_readLives_193 hf (fun _ hf => ?_) (fun _ hf => ?_)
        · refine pz_iconst (v := (0 : Int32)) hC dX10_readLives_200 (by decide) ?_
          refine pz_sub [0, 2] rfl ?_
          exact tX10_readLives_201 hC hK hf
        · refine pz_iconst (v := (1 : Int32)) hC dX10_readLives_196 (by decide) ?_
          refine pz_goto hC dX10_readLives_197 ?_
          refine pz_sub [0, 2] rfl ?_
          exact tX10_readLives_201 hC hK hf
      · refine pz_sub [0, 1] rfl ?_
        exact tX10_readLives_172 hC hK hf
  · refine pz_aload_n hC dX10_readLives_54 0 rfl ?_
    refine pz_getR hC dX10_readLives_55 fa_X10_7 hf (fun v7 hf => ?_)
    refine pz_bipush (v := (67 : Int32)) hC dX10_readLives_58 (by decide) ?_
    refine pz_iconst (v := (2 : Int32)) hC dX10_readLives_60 (by decide) ?_
    refine pz_iload hC dX10_readLives_61 4 rfl ?_
    refine pz_imul hC dX10_readLives_63 ?_
    refine pz_iadd hC dX10_readLives_64 ?_
    refine pz_iald hC dX10_readLives_65 hf (fun v8 hf => ?_)
    refine pz_istore hC dX10_readLives_66 (by decide) rfl ?_
    refine pz_aload_n hC dX10_readLives_68 1 rfl ?_
    refine pz_getR hC dX10_readLives_69 fa_X10_7 hf (fun v9 hf => ?_)
    refine pz_bipush (v := (67 : Int32)) hC dX10_readLives_72 (by decide) ?_
    refine pz_iconst (v := (2 : Int32)) hC dX10_readLives_74 (by decide) ?_
    refine pz_iload hC dX10_readLives_75 5 rfl ?_
    refine pz_imul hC dX10_readLives_77 ?_
    refine pz_iadd hC dX10_readLives_78 ?_
    refine pz_iconst (v := (1 : Int32)) hC dX10_readLives_79 (by decide) ?_
    refine pz_iadd hC dX10_readLives_80 ?_
    refine pz_iald hC dX10_readLives_81 hf (fun v10 hf => ?_)
    refine pz_istore hC dX10_readLives_82 (by decide) rfl ?_
    refine pz_iload hC dX10_readLives_84 1 rfl ?_
    refine pz_aload_n hC dX10_readLives_86 2 rfl ?_
    refine pz_getR hC dX10_readLives_87 fa_X10_41 hf (fun v11 hf => ?_)
    refine pz_iconst (v := (0 : Int32)) hC dX10_readLives_90 (by decide) ?_
    refine pz_iald hC dX10_readLives_91 hf (fun v12 hf => ?_)
    refine pz_icmp_ne hC dX10_readLives_92 hf (fun _ hf => ?_) (fun _ hf => ?_)
    · refine pz_iload_n hC dX10_readLives_100 4 rfl ?_
      refine pz_sub [2, 3, 5, 6, 1, 0] rfl ?_
      exact tX10_readLives_101 hC hK hk43 hf
    · refine pz_iload hC dX10_readLives_95 6 rfl ?_
      refine pz_goto hC dX10_readLives_97 ?_
      refine pz_sub [2, 3, 5, 6, 1, 0] rfl ?_
      exact tX10_readLives_101 hC hK hk43 hf
def fX10_readLives_43 : Nat → pz_H → Nat → Int32 → Int32 → Int32 → Int32 → Option (Int32 × pz_H)
  | 0, _, _, _, _, _, _ => none
  | n + 1, f, l0, l1, l2, l3, l4 => fX10_readLives_43b (fX10_readLives_43 n) f l0 l1 l2 l3 l4
theorem tX10_readLives_43 {G : pz_G} {C : pz_C} {r : (Int32 × pz_H)} (hC : pz_OK G C cX10_readLives 7 RX10) (hK : pz_K C (some .boolean) 2 45 0 0) : ∀ (N : Nat) (f : pz_H) (l0 : Nat) (l1 : Int32) (l2 : Int32) (l3 : Int32) (l4 : Int32), fX10_readLives_43 N f l0 l1 l2 l3 l4 = some r → pz_W G C 7 43 [(0, .ref l0), (1, .int l1), (2, .int l2), (3, .int l3), (4, .int l4)] [] f 0 0 (pz_Q G C (some (.int r.1)) r.2 0 0) := by
  intro N
  induction N with
  | zero => intro f l0 l1 l2 l3 l4 hf; cases hf
  | succ N ih => intro f l0 l1 l2 l3 l4 hf; exact tX10_readLives_43b hC hK (fun f l0 l1 l2 l3 l4 hf => ih f l0 l1 l2 l3 l4 hf) hf
def fnX10_readLives (f : pz_H) (a0 : Nat) (p1 : Int32) : Option (Int32 × pz_H) :=
  (pz_is f a0 9).bind fun _ =>
  (fnX10_number f a0 ((0 : Int32)) ((1 : Int32)) ((119 : Int32))).bind fun x1 =>
  if x1.1 = 0 then fX10_readLives_29 x1.2 else
  (fnX10_number x1.2 a0 ((1 : Int32)) ((0 : Int32)) ((100000 : Int32))).bind fun x2 =>
  if x2.1 = 0 then fX10_readLives_29 x2.2 else
  (fnX10_ends x2.2 a0).bind fun x3 =>
  if x3.1 = 0 then fX10_readLives_29 x3.2 else
  (pz_gR x3.2 a0 9 1).bind fun v4 =>
  (pz_aI x3.2 v4 0 ((5 : Int32))).bind fun v5 =>
  fX10_readLives_43 pz_F x3.2 a0 p1 v5 ((1 : Int32)) ((0 : Int32))
theorem mX10_readLives {l : Launch} {G : pz_G} {f : pz_H} {a0 : Nat} {p1 : Int32} {r : (Int32 × pz_H)} (hf : fnX10_readLives f a0 p1 = some r) : pz_Met l G yX10_readLives cX10_readLives 7 (some .boolean) 2 45 0 0 [.ref a0, .int p1] f (some (.int r.1)) r.2 ∧ pz_is f a0 9 = some () := by
  unfold fnX10_readLives at hf
  obtain ⟨_, h0, hf⟩ := pz_bd hf
  refine ⟨pz_enter (by decide +kernel) (Nat.le_of_ble_eq_true rfl) (fun C hl hC hK hnm => ?_), h0⟩
  subst hl
  refine pz_sub (lv' := [(0, .ref a0), (1, .int p1)]) [0, 1] rfl ?_
  refine pz_aload_n hC dX10_readLives_0 0 rfl ?_
  refine pz_iconst (v := (0 : Int32)) hC dX10_readLives_1 (by decide) ?_
  refine pz_iconst (v := (1 : Int32)) hC dX10_readLives_2 (by decide) ?_
  refine pz_bipush (v := (119 : Int32)) hC dX10_readLives_3 (by decide) ?_
  refine pz_Viw (As := [.int (0 : Int32), .int (1 : Int32), .int (119 : Int32)]) hC hK dX10_readLives_5 py_X10_number pv_X10_number lk_X10_240 hf (fun _ h => mX10_number h) rfl rfl (Nat.le_of_ble_eq_true rfl) ⟨by decide, by decide⟩ ⟨Nat.le_of_ble_eq_true rfl, Nat.le_of_ble_eq_true rfl⟩ (fun x1 hf => ?_)
  refine pz_if_eq hC dX10_readLives_8 hf (fun _ hf => ?_) (fun _ hf => ?_)
  · refine pz_sub [] rfl ?_
    exact tX10_readLives_29 hC hK hf
  · refine pz_aload_n hC dX10_readLives_11 0 rfl ?_
    refine pz_iconst (v := (1 : Int32)) hC dX10_readLives_12 (by decide) ?_
    refine pz_iconst (v := (0 : Int32)) hC dX10_readLives_13 (by decide) ?_
    refine pz_ldc hC dX10_readLives_14 ck_X10_102 ?_
    refine pz_Viw (As := [.int (1 : Int32), .int (0 : Int32), .int (100000 : Int32)]) hC hK dX10_readLives_16 py_X10_number pv_X10_number lk_X10_240 hf (fun _ h => mX10_number h) rfl rfl (Nat.le_of_ble_eq_true rfl) ⟨by decide, by decide⟩ ⟨Nat.le_of_ble_eq_true rfl, Nat.le_of_ble_eq_true rfl⟩ (fun x2 hf => ?_)
    refine pz_if_eq hC dX10_readLives_19 hf (fun _ hf => ?_) (fun _ hf => ?_)
    · refine pz_sub [] rfl ?_
      exact tX10_readLives_29 hC hK hf
    · refine pz_aload_n hC dX10_readLives_22 0 rfl ?_
      refine pz_Viw (As := []) hC hK dX10_readLives_23 py_X10_ends pv_X10_ends lk_X10_251 hf (fun _ h => mX10_ends h) rfl rfl (Nat.le_of_ble_eq_true rfl) ⟨by decide, by decide⟩ ⟨Nat.le_of_ble_eq_true rfl, Nat.le_of_ble_eq_true rfl⟩ (fun x3 hf => ?_)
      refine pz_if_ne hC dX10_readLives_26 hf (fun _ hf => ?_) (fun _ hf => ?_)
      · refine pz_aload_n hC dX10_readLives_31 0 rfl ?_
        refine pz_getR hC dX10_readLives_32 fa_X10_7 hf (fun v4 hf => ?_)
        refine pz_iconst (v := (5 : Int32)) hC dX10_readLives_35 (by decide) ?_
        refine pz_iald hC dX10_readLives_36 hf (fun v5 hf => ?_)
        refine pz_istore_n hC dX10_readLives_37 (by decide) rfl ?_
        refine pz_iconst (v := (1 : Int32)) hC dX10_readLives_38 (by decide) ?_
        refine pz_istore_n hC dX10_readLives_39 (by decide) rfl ?_
        refine pz_iconst (v := (0 : Int32)) hC dX10_readLives_40 (by decide) ?_
        refine pz_istore hC dX10_readLives_41 (by decide) rfl ?_
        refine pz_sub [3, 4, 2, 1, 0] rfl ?_
        exact tX10_readLives_43 hC hK _ _ _ _ _ _ _ hf
      · refine pz_sub [] rfl ?_
        exact tX10_readLives_29 hC hK hf
def fX10_readOfSpouse_32 (f : pz_H) : Option (Int32 × pz_H) :=
  (pz_b ((0 : Int32))).bind fun x => some (x, f)
theorem tX10_readOfSpouse_32 {G : pz_G} {C : pz_C} {f : pz_H} {r : (Int32 × pz_H)} (hC : pz_OK G C cX10_readOfSpouse 4 RX10) (hK : pz_K C (some .boolean) 4 87 0 0) (hf : fX10_readOfSpouse_32 f = some r) : pz_W G C 4 32 [] [] f 0 0 (pz_Q G C (some (.int r.1)) r.2 0 0) := by
  unfold fX10_readOfSpouse_32 at hf
  refine pz_iconst (v := (0 : Int32)) hC dX10_readOfSpouse_32 (by decide) ?_
  exact pz_zretw hC hK dX10_readOfSpouse_33 hf
def fnX10_readOfSpouse (f : pz_H) (a0 : Nat) (p1 : Int32) (p2 : Int32) : Option (Int32 × pz_H) :=
  (pz_is f a0 9).bind fun _ =>
  (pz_gR f a0 9 1).bind fun v1 =>
  (pz_aI f v1 0 ((4 : Int32))).bind fun v2 =>
  (fnX10_number f a0 ((0 : Int32)) ((0 : Int32)) ((v2 - (1 : Int32)))).bind fun x3 =>
  if x3.1 = 0 then fX10_readOfSpouse_32 x3.2 else
  (fnX10_month x3.2 a0 ((1 : Int32))).bind fun x4 =>
  if x4.1 = 0 then fX10_readOfSpouse_32 x4.2 else
  (fnX10_ends x4.2 a0).bind fun x5 =>
  if x5.1 = 0 then fX10_readOfSpouse_32 x5.2 else
  (pz_gR x5.2 a0 9 21).bind fun v6 =>
  (pz_aI x5.2 v6 0 ((0 : Int32))).bind fun v7 =>
  (pz_gR x5.2 a0 9 21).bind fun v8 =>
  (pz_aI x5.2 v8 0 ((1 : Int32))).bind fun v9 =>
  (fnX10_placeOf x5.2 a0 p2 v7 v9).bind fun x10 =>
  if x10 = ((-1) : Int32) then (fnX10_fails x5.2 a0 ((4 : Int32)) p1).bind fun x15 =>
  (pz_b x15.1).bind fun x => some (x, x15.2) else
  (pz_gR x5.2 a0 9 1).bind fun v11 =>
  (pz_gR x5.2 a0 9 21).bind fun v12 =>
  (pz_aI x5.2 v12 0 ((1 : Int32))).bind fun v13 =>
  (pz_tI x5.2 v11 0 x10 v13).bind fun f14 =>
  (pz_b ((1 : Int32))).bind fun x => some (x, f14)
theorem mX10_readOfSpouse {l : Launch} {G : pz_G} {f : pz_H} {a0 : Nat} {p1 : Int32} {p2 : Int32} {r : (Int32 × pz_H)} (hf : fnX10_readOfSpouse f a0 p1 p2 = some r) : pz_Met l G yX10_readOfSpouse cX10_readOfSpouse 4 (some .boolean) 4 87 0 0 [.ref a0, .int p1, .int p2] f (some (.int r.1)) r.2 ∧ pz_is f a0 9 = some () := by
  unfold fnX10_readOfSpouse at hf
  obtain ⟨_, h0, hf⟩ := pz_bd hf
  refine ⟨pz_enter (by decide +kernel) (Nat.le_of_ble_eq_true rfl) (fun C hl hC hK hnm => ?_), h0⟩
  subst hl
  refine pz_sub (lv' := [(0, .ref a0), (1, .int p1), (2, .int p2)]) [0, 1, 2] rfl ?_
  refine pz_aload_n hC dX10_readOfSpouse_0 0 rfl ?_
  refine pz_iconst (v := (0 : Int32)) hC dX10_readOfSpouse_1 (by decide) ?_
  refine pz_iconst (v := (0 : Int32)) hC dX10_readOfSpouse_2 (by decide) ?_
  refine pz_aload_n hC dX10_readOfSpouse_3 0 rfl ?_
  refine pz_getR hC dX10_readOfSpouse_4 fa_X10_7 hf (fun v1 hf => ?_)
  refine pz_iconst (v := (4 : Int32)) hC dX10_readOfSpouse_7 (by decide) ?_
  refine pz_iald hC dX10_readOfSpouse_8 hf (fun v2 hf => ?_)
  refine pz_iconst (v := (1 : Int32)) hC dX10_readOfSpouse_9 (by decide) ?_
  refine pz_isub hC dX10_readOfSpouse_10 ?_
  refine pz_Viw (As := [.int (0 : Int32), .int (0 : Int32), .int (v2 - (1 : Int32))]) hC hK dX10_readOfSpouse_11 py_X10_number pv_X10_number lk_X10_240 hf (fun _ h => mX10_number h) rfl rfl (Nat.le_of_ble_eq_true rfl) ⟨by decide, by decide⟩ ⟨Nat.le_of_ble_eq_true rfl, Nat.le_of_ble_eq_true rfl⟩ (fun x3 hf => ?_)
  refine pz_if_eq hC dX10_readOfSpouse_14 hf (fun _ hf => ?_) (fun _ hf => ?_)
  · refine pz_sub [] rfl ?_
    exact tX10_readOfSpouse_32 hC hK hf
  · refine pz_aload_n hC dX10_readOfSpouse_17 0 rfl ?_
    refine pz_iconst (v := (1 : Int32)) hC dX10_readOfSpouse_18 (by decide) ?_
    refine pz_Viw (As := [.int (1 : Int32)]) hC hK dX10_readOfSpouse_19 py_X10_month pv_X10_month lk_X10_247 hf (fun _ h => mX10_month h) rfl rfl (Nat.le_of_ble_eq_true rfl) ⟨by decide, by decide⟩ ⟨Nat.le_of_ble_eq_true rfl, Nat.le_of_ble_eq_true rfl⟩ (fun x4 hf => ?_)
    refine pz_if_eq hC dX10_readOfSpouse_22 hf (fun _ hf => ?_) (fun _ hf => ?_)
    · refine pz_sub [] rfl ?_
      exact tX10_readOfSpouse_32 hC hK hf
    · refine pz_aload_n hC dX10_readOfSpouse_25 0 rfl ?_
      refine pz_Viw (As := []) hC hK dX10_readOfSpouse_26 py_X10_ends pv_X10_ends lk_X10_251 hf (fun _ h => mX10_ends h) rfl rfl (Nat.le_of_ble_eq_true rfl) ⟨by decide, by decide⟩ ⟨Nat.le_of_ble_eq_true rfl, Nat.le_of_ble_eq_true rfl⟩ (fun x5 hf => ?_)
      refine pz_if_ne hC dX10_readOfSpouse_29 hf (fun _ hf => ?_) (fun _ hf => ?_)
      · refine pz_aload_n hC dX10_readOfSpouse_34 0 rfl ?_
        refine pz_iload_n hC dX10_readOfSpouse_35 2 rfl ?_
        refine pz_aload_n hC dX10_readOfSpouse_36 0 rfl ?_
        refine pz_getR hC dX10_readOfSpouse_37 fa_X10_41 hf (fun v6 hf => ?_)
        refine pz_iconst (v := (0 : Int32)) hC dX10_readOfSpouse_40 (by decide) ?_
        refine pz_iald hC dX10_readOfSpouse_41 hf (fun v7 hf => ?_)
        refine pz_aload_n hC dX10_readOfSpouse_42 0 rfl ?_
        refine pz_getR hC dX10_readOfSpouse_43 fa_X10_41 hf (fun v8 hf => ?_)
        refine pz_iconst (v := (1 : Int32)) hC dX10_readOfSpouse_46 (by decide) ?_
        refine pz_iald hC dX10_readOfSpouse_47 hf (fun v9 hf => ?_)
        refine pz_Vi (As := [.int p2, .int v7, .int v9]) hC hK dX10_readOfSpouse_48 py_X10_placeOf pv_X10_placeOf lk_X10_211 hf (fun _ h => mX10_placeOf h) rfl rfl (Nat.le_of_ble_eq_true rfl) ⟨by decide, by decide⟩ ⟨Nat.le_of_ble_eq_true rfl, Nat.le_of_ble_eq_true rfl⟩ (fun x10 hf => ?_)
        refine pz_istore_n hC dX10_readOfSpouse_51 (by decide) rfl ?_
        refine pz_iload_n hC dX10_readOfSpouse_52 0 rfl ?_
        refine pz_iconst (v := ((-1) : Int32)) hC dX10_readOfSpouse_53 (by decide) ?_
        refine pz_icmp_ne hC dX10_readOfSpouse_54 hf (fun _ hf => ?_) (fun _ hf => ?_)
        · refine pz_aload_n hC dX10_readOfSpouse_64 1 rfl ?_
          refine pz_getR hC dX10_readOfSpouse_65 fa_X10_7 hf (fun v11 hf => ?_)
          refine pz_iload_n hC dX10_readOfSpouse_68 0 rfl ?_
          refine pz_aload_n hC dX10_readOfSpouse_69 1 rfl ?_
          refine pz_getR hC dX10_readOfSpouse_70 fa_X10_41 hf (fun v12 hf => ?_)
          refine pz_iconst (v := (1 : Int32)) hC dX10_readOfSpouse_73 (by decide) ?_
          refine pz_iald hC dX10_readOfSpouse_74 hf (fun v13 hf => ?_)
          refine pz_iast hC dX10_readOfSpouse_75 hf (fun f14 hf => ?_)
          refine pz_iconst (v := (1 : Int32)) hC dX10_readOfSpouse_76 (by decide) ?_
          exact pz_zretw hC hK dX10_readOfSpouse_77 hf
        · refine pz_aload_n hC dX10_readOfSpouse_57 1 rfl ?_
          refine pz_iconst (v := (4 : Int32)) hC dX10_readOfSpouse_58 (by decide) ?_
          refine pz_iload_n hC dX10_readOfSpouse_59 2 rfl ?_
          refine pz_Viw (As := [.int (4 : Int32), .int p1]) hC hK dX10_readOfSpouse_60 py_X10_fails pv_X10_fails lk_X10_231 hf (fun _ h => mX10_fails h) rfl rfl (Nat.le_of_ble_eq_true rfl) ⟨by decide, by decide⟩ ⟨Nat.le_of_ble_eq_true rfl, Nat.le_of_ble_eq_true rfl⟩ (fun x15 hf => ?_)
          exact pz_zretw hC hK dX10_readOfSpouse_63 hf
      · refine pz_sub [] rfl ?_
        exact tX10_readOfSpouse_32 hC hK hf
def fX10_readOne_35 (f : pz_H) : Option (Int32 × pz_H) :=
  (pz_b ((0 : Int32))).bind fun x => some (x, f)
theorem tX10_readOne_35 {G : pz_G} {C : pz_C} {f : pz_H} {r : (Int32 × pz_H)} (hC : pz_OK G C cX10_readOne 4 RX10) (hK : pz_K C (some .boolean) 4 87 0 0) (hf : fX10_readOne_35 f = some r) : pz_W G C 4 35 [] [] f 0 0 (pz_Q G C (some (.int r.1)) r.2 0 0) := by
  unfold fX10_readOne_35 at hf
  refine pz_iconst (v := (0 : Int32)) hC dX10_readOne_35 (by decide) ?_
  exact pz_zretw hC hK dX10_readOne_36 hf
def fX10_readOne_22 (f : pz_H) (l0 : Nat) (l1 : Int32) (l2 : Int32) (s0 : Int32) (s1 : Int32) (s2 : Int32) (s3 : Nat) : Option (Int32 × pz_H) :=
  (fnX10_number f s3 s2 s1 s0).bind fun x1 =>
  if x1.1 = 0 then fX10_readOne_35 x1.2 else
  (fnX10_ends x1.2 l0).bind fun x2 =>
  if x2.1 = 0 then fX10_readOne_35 x2.2 else
  (pz_gR x2.2 l0 9 21).bind fun v3 =>
  (pz_aI x2.2 v3 0 ((0 : Int32))).bind fun v4 =>
  (fnX10_placeOf x2.2 l0 l2 ((0 : Int32)) v4).bind fun x5 =>
  if x5 = ((-1) : Int32) then (fnX10_fails x2.2 l0 ((4 : Int32)) l1).bind fun x10 =>
  (pz_b x10.1).bind fun x => some (x, x10.2) else
  (pz_gR x2.2 l0 9 1).bind fun v6 =>
  (pz_gR x2.2 l0 9 21).bind fun v7 =>
  (pz_aI x2.2 v7 0 ((0 : Int32))).bind fun v8 =>
  (pz_tI x2.2 v6 0 x5 v8).bind fun f9 =>
  (pz_b ((1 : Int32))).bind fun x => some (x, f9)
theorem tX10_readOne_22 {G : pz_G} {C : pz_C} {f : pz_H} {l0 : Nat} {l1 : Int32} {l2 : Int32} {s0 : Int32} {s1 : Int32} {s2 : Int32} {s3 : Nat} {r : (Int32 × pz_H)} (hC : pz_OK G C cX10_readOne 4 RX10) (hK : pz_K C (some .boolean) 4 87 0 0) (hf : fX10_readOne_22 f l0 l1 l2 s0 s1 s2 s3 = some r) : pz_W G C 4 22 [(0, .ref l0), (1, .int l1), (2, .int l2)] [.int s0, .int s1, .int s2, .ref s3] f 0 0 (pz_Q G C (some (.int r.1)) r.2 0 0) := by
  unfold fX10_readOne_22 at hf
  refine pz_Viw (As := [.int s2, .int s1, .int s0]) hC hK dX10_readOne_22 py_X10_number pv_X10_number lk_X10_240 hf (fun _ h => mX10_number h) rfl rfl (Nat.le_of_ble_eq_true rfl) ⟨by decide, by decide⟩ ⟨Nat.le_of_ble_eq_true rfl, Nat.le_of_ble_eq_true rfl⟩ (fun x1 hf => ?_)
  refine pz_if_eq hC dX10_readOne_25 hf (fun _ hf => ?_) (fun _ hf => ?_)
  · refine pz_sub [] rfl ?_
    exact tX10_readOne_35 hC hK hf
  · refine pz_aload_n hC dX10_readOne_28 0 rfl ?_
    refine pz_Viw (As := []) hC hK dX10_readOne_29 py_X10_ends pv_X10_ends lk_X10_251 hf (fun _ h => mX10_ends h) rfl rfl (Nat.le_of_ble_eq_true rfl) ⟨by decide, by decide⟩ ⟨Nat.le_of_ble_eq_true rfl, Nat.le_of_ble_eq_true rfl⟩ (fun x2 hf => ?_)
    refine pz_if_ne hC dX10_readOne_32 hf (fun _ hf => ?_) (fun _ hf => ?_)
    · refine pz_aload_n hC dX10_readOne_37 0 rfl ?_
      refine pz_iload_n hC dX10_readOne_38 2 rfl ?_
      refine pz_iconst (v := (0 : Int32)) hC dX10_readOne_39 (by decide) ?_
      refine pz_aload_n hC dX10_readOne_40 0 rfl ?_
      refine pz_getR hC dX10_readOne_41 fa_X10_41 hf (fun v3 hf => ?_)
      refine pz_iconst (v := (0 : Int32)) hC dX10_readOne_44 (by decide) ?_
      refine pz_iald hC dX10_readOne_45 hf (fun v4 hf => ?_)
      refine pz_Vi (As := [.int l2, .int (0 : Int32), .int v4]) hC hK dX10_readOne_46 py_X10_placeOf pv_X10_placeOf lk_X10_211 hf (fun _ h => mX10_placeOf h) rfl rfl (Nat.le_of_ble_eq_true rfl) ⟨by decide, by decide⟩ ⟨Nat.le_of_ble_eq_true rfl, Nat.le_of_ble_eq_true rfl⟩ (fun x5 hf => ?_)
      refine pz_istore_n hC dX10_readOne_49 (by decide) rfl ?_
      refine pz_iload_n hC dX10_readOne_50 0 rfl ?_
      refine pz_iconst (v := ((-1) : Int32)) hC dX10_readOne_51 (by decide) ?_
      refine pz_icmp_ne hC dX10_readOne_52 hf (fun _ hf => ?_) (fun _ hf => ?_)
      · refine pz_aload_n hC dX10_readOne_62 1 rfl ?_
        refine pz_getR hC dX10_readOne_63 fa_X10_7 hf (fun v6 hf => ?_)
        refine pz_iload_n hC dX10_readOne_66 0 rfl ?_
        refine pz_aload_n hC dX10_readOne_67 1 rfl ?_
        refine pz_getR hC dX10_readOne_68 fa_X10_41 hf (fun v7 hf => ?_)
        refine pz_iconst (v := (0 : Int32)) hC dX10_readOne_71 (by decide) ?_
        refine pz_iald hC dX10_readOne_72 hf (fun v8 hf => ?_)
        refine pz_iast hC dX10_readOne_73 hf (fun f9 hf => ?_)
        refine pz_iconst (v := (1 : Int32)) hC dX10_readOne_74 (by decide) ?_
        exact pz_zretw hC hK dX10_readOne_75 hf
      · refine pz_aload_n hC dX10_readOne_55 1 rfl ?_
        refine pz_iconst (v := (4 : Int32)) hC dX10_readOne_56 (by decide) ?_
        refine pz_iload_n hC dX10_readOne_57 2 rfl ?_
        refine pz_Viw (As := [.int (4 : Int32), .int l1]) hC hK dX10_readOne_58 py_X10_fails pv_X10_fails lk_X10_231 hf (fun _ h => mX10_fails h) rfl rfl (Nat.le_of_ble_eq_true rfl) ⟨by decide, by decide⟩ ⟨Nat.le_of_ble_eq_true rfl, Nat.le_of_ble_eq_true rfl⟩ (fun x10 hf => ?_)
        exact pz_zretw hC hK dX10_readOne_61 hf
    · refine pz_sub [] rfl ?_
      exact tX10_readOne_35 hC hK hf
def fnX10_readOne (f : pz_H) (a0 : Nat) (p1 : Int32) (p2 : Int32) : Option (Int32 × pz_H) :=
  (pz_is f a0 9).bind fun _ =>
  if (10 : Int32) ≤ p2 then (fnX10_mostOf ((p2 - (10 : Int32)))).bind fun x1 =>
  fX10_readOne_22 f a0 p1 p2 x1 ((0 : Int32)) ((0 : Int32)) a0 else
  fX10_readOne_22 f a0 p1 p2 ((1799 : Int32)) ((0 : Int32)) ((0 : Int32)) a0
theorem mX10_readOne {l : Launch} {G : pz_G} {f : pz_H} {a0 : Nat} {p1 : Int32} {p2 : Int32} {r : (Int32 × pz_H)} (hf : fnX10_readOne f a0 p1 p2 = some r) : pz_Met l G yX10_readOne cX10_readOne 4 (some .boolean) 4 87 0 0 [.ref a0, .int p1, .int p2] f (some (.int r.1)) r.2 ∧ pz_is f a0 9 = some () := by
  unfold fnX10_readOne at hf
  obtain ⟨_, h0, hf⟩ := pz_bd hf
  refine ⟨pz_enter (by decide +kernel) (Nat.le_of_ble_eq_true rfl) (fun C hl hC hK hnm => ?_), h0⟩
  subst hl
  refine pz_sub (lv' := [(0, .ref a0), (1, .int p1), (2, .int p2)]) [0, 1, 2] rfl ?_
  refine pz_aload_n hC dX10_readOne_0 0 rfl ?_
  refine pz_iconst (v := (0 : Int32)) hC dX10_readOne_1 (by decide) ?_
  refine pz_iconst (v := (0 : Int32)) hC dX10_readOne_2 (by decide) ?_
  refine pz_iload_n hC dX10_readOne_3 2 rfl ?_
  refine pz_bipush (v := (10 : Int32)) hC dX10_readOne_4 (by decide) ?_
  refine pz_icmp_ge hC dX10_readOne_6 hf (fun _ hf => ?_) (fun _ hf => ?_)
  · refine pz_iload_n hC dX10_readOne_15 2 rfl ?_
    refine pz_bipush (v := (10 : Int32)) hC dX10_readOne_16 (by decide) ?_
    refine pz_isub hC dX10_readOne_18 ?_
    refine pz_Si (As := [.int (p2 - (10 : Int32))]) hC hK dX10_readOne_19 py_X10_mostOf ps_X10_mostOf lk_X10_205 hf (fun _ h => mX10_mostOf h) rfl rfl (Nat.le_of_ble_eq_true rfl) ⟨by decide, by decide⟩ ⟨by decide, by decide⟩ (fun x1 hf => ?_)
    exact tX10_readOne_22 hC hK hf
  · refine pz_sipush (v := (1799 : Int32)) hC dX10_readOne_9 (by decide) ?_
    refine pz_goto hC dX10_readOne_12 ?_
    exact tX10_readOne_22 hC hK hf
def fX10_readBorn_15 (f : pz_H) : Option (Int32 × pz_H) :=
  (pz_b ((0 : Int32))).bind fun x => some (x, f)
theorem tX10_readBorn_15 {G : pz_G} {C : pz_C} {f : pz_H} {r : (Int32 × pz_H)} (hC : pz_OK G C cX10_readBorn 1 RX10) (hK : pz_K C (some .boolean) 3 66 0 0) (hf : fX10_readBorn_15 f = some r) : pz_W G C 1 15 [] [] f 0 0 (pz_Q G C (some (.int r.1)) r.2 0 0) := by
  unfold fX10_readBorn_15 at hf
  refine pz_iconst (v := (0 : Int32)) hC dX10_readBorn_15 (by decide) ?_
  exact pz_zretw hC hK dX10_readBorn_16 hf
def fnX10_readBorn (f : pz_H) (a0 : Nat) : Option (Int32 × pz_H) :=
  (pz_is f a0 9).bind fun _ =>
  (fnX10_month f a0 ((0 : Int32))).bind fun x1 =>
  if x1.1 = 0 then fX10_readBorn_15 x1.2 else
  (fnX10_ends x1.2 a0).bind fun x2 =>
  if x2.1 = 0 then fX10_readBorn_15 x2.2 else
  (pz_gR x2.2 a0 9 21).bind fun v3 =>
  (pz_aI x2.2 v3 0 ((0 : Int32))).bind fun v4 =>
  (fnX10_begins x2.2 a0 v4).bind fun x5 =>
  (pz_b ((1 : Int32))).bind fun x => some (x, x5)
theorem mX10_readBorn {l : Launch} {G : pz_G} {f : pz_H} {a0 : Nat} {r : (Int32 × pz_H)} (hf : fnX10_readBorn f a0 = some r) : pz_Met l G yX10_readBorn cX10_readBorn 1 (some .boolean) 3 66 0 0 [.ref a0] f (some (.int r.1)) r.2 ∧ pz_is f a0 9 = some () := by
  unfold fnX10_readBorn at hf
  obtain ⟨_, h0, hf⟩ := pz_bd hf
  refine ⟨pz_enter (by decide +kernel) (Nat.le_of_ble_eq_true rfl) (fun C hl hC hK hnm => ?_), h0⟩
  subst hl
  refine pz_sub (lv' := [(0, .ref a0)]) [0] rfl ?_
  refine pz_aload_n hC dX10_readBorn_0 0 rfl ?_
  refine pz_iconst (v := (0 : Int32)) hC dX10_readBorn_1 (by decide) ?_
  refine pz_Viw (As := [.int (0 : Int32)]) hC hK dX10_readBorn_2 py_X10_month pv_X10_month lk_X10_247 hf (fun _ h => mX10_month h) rfl rfl (Nat.le_of_ble_eq_true rfl) ⟨by decide, by decide⟩ ⟨Nat.le_of_ble_eq_true rfl, Nat.le_of_ble_eq_true rfl⟩ (fun x1 hf => ?_)
  refine pz_if_eq hC dX10_readBorn_5 hf (fun _ hf => ?_) (fun _ hf => ?_)
  · refine pz_sub [] rfl ?_
    exact tX10_readBorn_15 hC hK hf
  · refine pz_aload_n hC dX10_readBorn_8 0 rfl ?_
    refine pz_Viw (As := []) hC hK dX10_readBorn_9 py_X10_ends pv_X10_ends lk_X10_251 hf (fun _ h => mX10_ends h) rfl rfl (Nat.le_of_ble_eq_true rfl) ⟨by decide, by decide⟩ ⟨Nat.le_of_ble_eq_true rfl, Nat.le_of_ble_eq_true rfl⟩ (fun x2 hf => ?_)
    refine pz_if_ne hC dX10_readBorn_12 hf (fun _ hf => ?_) (fun _ hf => ?_)
    · refine pz_aload_n hC dX10_readBorn_17 0 rfl ?_
      refine pz_aload_n hC dX10_readBorn_18 0 rfl ?_
      refine pz_getR hC dX10_readBorn_19 fa_X10_41 hf (fun v3 hf => ?_)
      refine pz_iconst (v := (0 : Int32)) hC dX10_readBorn_22 (by decide) ?_
      refine pz_iald hC dX10_readBorn_23 hf (fun v4 hf => ?_)
      refine pz_Vv (As := [.int v4]) hC hK dX10_readBorn_24 py_X10_begins pv_X10_begins lk_X10_44 hf (fun _ h => mX10_begins h) rfl rfl (Nat.le_of_ble_eq_true rfl) ⟨by decide, by decide⟩ ⟨Nat.le_of_ble_eq_true rfl, Nat.le_of_ble_eq_true rfl⟩ (fun x5 hf => ?_)
      refine pz_iconst (v := (1 : Int32)) hC dX10_readBorn_27 (by decide) ?_
      exact pz_zretw hC hK dX10_readBorn_28 hf
    · refine pz_sub [] rfl ?_
      exact tX10_readBorn_15 hC hK hf
def fX10_termOf_66 (s0 : Int32) : Option Int32 :=
  some s0
theorem tX10_termOf_66 {G : pz_G} {C : pz_C} {f : pz_H} {s0 : Int32} {r : Int32} (hC : pz_OK G C cX10_termOf 2 RX10) (hK : pz_K C (some .int) 0 0 0 0) (hf : fX10_termOf_66 s0 = some r) : pz_W G C 2 66 [] [.int s0] f 0 0 (pz_Q G C (some (.int r)) f 0 0) := by
  unfold fX10_termOf_66 at hf
  exact pz_iret hC hK dX10_termOf_66 hf
def fnX10_termOf (p0 : Int64) : Option Int32 :=
  if (lg_cmp p0 ((11817 : Int64))) = 0 then fX10_termOf_66 ((10 : Int32)) else
  if (lg_cmp p0 ((209220123 : Int64))) = 0 then fX10_termOf_66 ((11 : Int32)) else
  if (lg_cmp p0 ((2690359 : Int64))) = 0 then fX10_termOf_66 ((12 : Int32)) else
  if (lg_cmp p0 ((70309 : Int64))) = 0 then fX10_termOf_66 ((13 : Int32)) else
  if (lg_cmp p0 ((99857059490 : Int64))) = 0 then fX10_termOf_66 ((14 : Int32)) else
  fX10_termOf_66 (((-1) : Int32))
theorem mX10_termOf {l : Launch} {G : pz_G} {f : pz_H} {p0 : Int64} {r : Int32} (hf : fnX10_termOf p0 = some r) : pz_Met l G yX10_termOf cX10_termOf 2 (some .int) 0 0 0 0 [.long p0] f (some (.int r)) f := by
  unfold fnX10_termOf at hf
  refine pz_enter (by decide +kernel) (Nat.le_of_ble_eq_true rfl) (fun C hl hC hK hnm => ?_)
  subst hl
  refine pz_sub (lv' := [(0, .long p0)]) [0] rfl ?_
  refine pz_lload_n hC dX10_termOf_0 0 rfl ?_
  refine pz_ldc2 hC dX10_termOf_1 ck_X10_263 ?_
  refine pz_lcmp hC dX10_termOf_4 ?_
  refine pz_if_ne hC dX10_termOf_5 hf (fun _ hf => ?_) (fun _ hf => ?_)
  · refine pz_lload_n hC dX10_termOf_13 0 rfl ?_
    refine pz_ldc2 hC dX10_termOf_14 ck_X10_265 ?_
    refine pz_lcmp hC dX10_termOf_17 ?_
    refine pz_if_ne hC dX10_termOf_18 hf (fun _ hf => ?_) (fun _ hf => ?_)
    · refine pz_lload_n hC dX10_termOf_26 0 rfl ?_
      refine pz_ldc2 hC dX10_termOf_27 ck_X10_267 ?_
      refine pz_lcmp hC dX10_termOf_30 ?_
      refine pz_if_ne hC dX10_termOf_31 hf (fun _ hf => ?_) (fun _ hf => ?_)
      · refine pz_lload_n hC dX10_termOf_39 0 rfl ?_
        refine pz_ldc2 hC dX10_termOf_40 ck_X10_269 ?_
        refine pz_lcmp hC dX10_termOf_43 ?_
        refine pz_if_ne hC dX10_termOf_44 hf (fun _ hf => ?_) (fun _ hf => ?_)
        · refine pz_lload_n hC dX10_termOf_52 0 rfl ?_
          refine pz_ldc2 hC dX10_termOf_53 ck_X10_271 ?_
          refine pz_lcmp hC dX10_termOf_56 ?_
          refine pz_if_ne hC dX10_termOf_57 hf (fun _ hf => ?_) (fun _ hf => ?_)
          · refine pz_iconst (v := ((-1) : Int32)) hC dX10_termOf_65 (by decide) ?_
            refine pz_sub [] rfl ?_
            exact tX10_termOf_66 hC hK hf
          · refine pz_bipush (v := (14 : Int32)) hC dX10_termOf_60 (by decide) ?_
            refine pz_goto hC dX10_termOf_62 ?_
            refine pz_sub [] rfl ?_
            exact tX10_termOf_66 hC hK hf
        · refine pz_bipush (v := (13 : Int32)) hC dX10_termOf_47 (by decide) ?_
          refine pz_goto hC dX10_termOf_49 ?_
          refine pz_sub [] rfl ?_
          exact tX10_termOf_66 hC hK hf
      · refine pz_bipush (v := (12 : Int32)) hC dX10_termOf_34 (by decide) ?_
        refine pz_goto hC dX10_termOf_36 ?_
        refine pz_sub [] rfl ?_
        exact tX10_termOf_66 hC hK hf
    · refine pz_bipush (v := (11 : Int32)) hC dX10_termOf_21 (by decide) ?_
      refine pz_goto hC dX10_termOf_23 ?_
      refine pz_sub [] rfl ?_
      exact tX10_termOf_66 hC hK hf
  · refine pz_bipush (v := (10 : Int32)) hC dX10_termOf_8 (by decide) ?_
    refine pz_goto hC dX10_termOf_10 ?_
    refine pz_sub [] rfl ?_
    exact tX10_termOf_66 hC hK hf
def fX10_readStatement_134 (f : pz_H) (s0 : Int32) (s1 : Int32) (s2 : Nat) : Option (Int32 × pz_H) :=
  (fnX10_readOfSpouse f s2 s1 s0).bind fun x1 =>
  (pz_b x1.1).bind fun x => some (x, x1.2)
theorem tX10_readStatement_134 {G : pz_G} {C : pz_C} {f : pz_H} {s0 : Int32} {s1 : Int32} {s2 : Nat} {r : (Int32 × pz_H)} (hC : pz_OK G C cX10_readStatement 4 RX10) (hK : pz_K C (some .boolean) 5 110 0 0) (hf : fX10_readStatement_134 f s0 s1 s2 = some r) : pz_W G C 4 134 [] [.int s0, .int s1, .ref s2] f 0 0 (pz_Q G C (some (.int r.1)) r.2 0 0) := by
  unfold fX10_readStatement_134 at hf
  refine pz_Viw (As := [.int s1, .int s0]) hC hK dX10_readStatement_134 py_X10_readOfSpouse pv_X10_readOfSpouse lk_X10_302 hf (fun _ h => mX10_readOfSpouse h) rfl rfl (Nat.le_of_ble_eq_true rfl) ⟨by decide, by decide⟩ ⟨Nat.le_of_ble_eq_true rfl, Nat.le_of_ble_eq_true rfl⟩ (fun x1 hf => ?_)
  exact pz_zretw hC hK dX10_readStatement_137 hf
def fX10_readStatement_119 (f : pz_H) (l0 : Nat) (l1 : Int64) (l3 : Int32) : Option (Int32 × pz_H) :=
  if (lg_cmp l1 ((1831504 : Int64))) = 0 then fX10_readStatement_134 f ((4 : Int32)) l3 l0 else
  fX10_readStatement_134 f ((5 : Int32)) l3 l0
theorem tX10_readStatement_119 {G : pz_G} {C : pz_C} {f : pz_H} {l0 : Nat} {l1 : Int64} {l3 : Int32} {r : (Int32 × pz_H)} (hC : pz_OK G C cX10_readStatement 4 RX10) (hK : pz_K C (some .boolean) 5 110 0 0) (hf : fX10_readStatement_119 f l0 l1 l3 = some r) : pz_W G C 4 119 [(0, .ref l0), (1, .long l1), (3, .int l3)] [] f 0 0 (pz_Q G C (some (.int r.1)) r.2 0 0) := by
  unfold fX10_readStatement_119 at hf
  refine pz_aload_n hC dX10_readStatement_119 0 rfl ?_
  refine pz_iload_n hC dX10_readStatement_120 2 rfl ?_
  refine pz_lload_n hC dX10_readStatement_121 1 rfl ?_
  refine pz_ldc2 hC dX10_readStatement_122 ck_X10_298 ?_
  refine pz_lcmp hC dX10_readStatement_125 ?_
  refine pz_if_ne hC dX10_readStatement_126 hf (fun _ hf => ?_) (fun _ hf => ?_)
  · refine pz_iconst (v := (5 : Int32)) hC dX10_readStatement_133 (by decide) ?_
    refine pz_sub [] rfl ?_
    exact tX10_readStatement_134 hC hK hf
  · refine pz_iconst (v := (4 : Int32)) hC dX10_readStatement_129 (by decide) ?_
    refine pz_goto hC dX10_readStatement_130 ?_
    refine pz_sub [] rfl ?_
    exact tX10_readStatement_134 hC hK hf
def fX10_readStatement_170 (f : pz_H) (s0 : Int32) (s1 : Int32) (s2 : Nat) : Option (Int32 × pz_H) :=
  (fnX10_readOne f s2 s1 s0).bind fun x1 =>
  (pz_b x1.1).bind fun x => some (x, x1.2)
theorem tX10_readStatement_170 {G : pz_G} {C : pz_C} {f : pz_H} {s0 : Int32} {s1 : Int32} {s2 : Nat} {r : (Int32 × pz_H)} (hC : pz_OK G C cX10_readStatement 4 RX10) (hK : pz_K C (some .boolean) 5 110 0 0) (hf : fX10_readStatement_170 f s0 s1 s2 = some r) : pz_W G C 4 170 [] [.int s0, .int s1, .ref s2] f 0 0 (pz_Q G C (some (.int r.1)) r.2 0 0) := by
  unfold fX10_readStatement_170 at hf
  refine pz_Viw (As := [.int s1, .int s0]) hC hK dX10_readStatement_170 py_X10_readOne pv_X10_readOne lk_X10_309 hf (fun _ h => mX10_readOne h) rfl rfl (Nat.le_of_ble_eq_true rfl) ⟨by decide, by decide⟩ ⟨Nat.le_of_ble_eq_true rfl, Nat.le_of_ble_eq_true rfl⟩ (fun x1 hf => ?_)
  exact pz_zretw hC hK dX10_readStatement_173 hf
def fX10_readStatement_154 (f : pz_H) (l0 : Nat) (l1 : Int64) (l3 : Int32) : Option (Int32 × pz_H) :=
  if (lg_cmp l1 ((85447 : Int64))) = 0 then fX10_readStatement_170 f ((6 : Int32)) l3 l0 else
  fX10_readStatement_170 f ((0 : Int32)) l3 l0
theorem tX10_readStatement_154 {G : pz_G} {C : pz_C} {f : pz_H} {l0 : Nat} {l1 : Int64} {l3 : Int32} {r : (Int32 × pz_H)} (hC : pz_OK G C cX10_readStatement 4 RX10) (hK : pz_K C (some .boolean) 5 110 0 0) (hf : fX10_readStatement_154 f l0 l1 l3 = some r) : pz_W G C 4 154 [(0, .ref l0), (1, .long l1), (3, .int l3)] [] f 0 0 (pz_Q G C (some (.int r.1)) r.2 0 0) := by
  unfold fX10_readStatement_154 at hf
  refine pz_aload_n hC dX10_readStatement_154 0 rfl ?_
  refine pz_iload_n hC dX10_readStatement_155 2 rfl ?_
  refine pz_lload_n hC dX10_readStatement_156 1 rfl ?_
  refine pz_ldc2 hC dX10_readStatement_157 ck_X10_305 ?_
  refine pz_lcmp hC dX10_readStatement_160 ?_
  refine pz_if_ne hC dX10_readStatement_161 hf (fun _ hf => ?_) (fun _ hf => ?_)
  · refine pz_iconst (v := (0 : Int32)) hC dX10_readStatement_169 (by decide) ?_
    refine pz_sub [] rfl ?_
    exact tX10_readStatement_170 hC hK hf
  · refine pz_bipush (v := (6 : Int32)) hC dX10_readStatement_164 (by decide) ?_
    refine pz_goto hC dX10_readStatement_166 ?_
    refine pz_sub [] rfl ?_
    exact tX10_readStatement_170 hC hK hf
def fX10_readStatement_200 (f : pz_H) (s0 : Int32) : Option (Int32 × pz_H) :=
  (pz_b s0).bind fun x => some (x, f)
theorem tX10_readStatement_200 {G : pz_G} {C : pz_C} {f : pz_H} {s0 : Int32} {r : (Int32 × pz_H)} (hC : pz_OK G C cX10_readStatement 4 RX10) (hK : pz_K C (some .boolean) 5 110 0 0) (hf : fX10_readStatement_200 f s0 = some r) : pz_W G C 4 200 [] [.int s0] f 0 0 (pz_Q G C (some (.int r.1)) r.2 0 0) := by
  unfold fX10_readStatement_200 at hf
  exact pz_zretw hC hK dX10_readStatement_200 hf
def fnX10_readStatement (f : pz_H) (a0 : Nat) : Option (Int32 × pz_H) :=
  (pz_is f a0 9).bind fun _ =>
  (fnX10_here f a0).bind fun x1 =>
  (fnX10_in x1.1 ((97 : Int32)) ((122 : Int32))).bind fun x2 =>
  if x2 = 0 then (pz_gI x1.2 a0 9 16).bind fun v14 =>
  (fnX10_fails x1.2 a0 ((1 : Int32)) v14).bind fun x15 =>
  (pz_b x15.1).bind fun x => some (x, x15.2) else
  (fnX10_readWord x1.2 a0).bind fun x3 =>
  (pz_gI x3.2 a0 9 19).bind fun v4 =>
  if (lg_cmp x3.1 ((50801 : Int64))) = 0 then (fnX10_readBorn x3.2 a0).bind fun x13 =>
  (pz_b x13.1).bind fun x => some (x, x13.2) else
  if (lg_cmp x3.1 ((10209515 : Int64))) = 0 then (fnX10_readServe x3.2 a0 v4).bind fun x12 =>
  (pz_b x12.1).bind fun x => some (x, x12.2) else
  if (lg_cmp x3.1 ((16906 : Int64))) = 0 then (fnX10_readWed x3.2 a0 v4).bind fun x11 =>
  (pz_b x11.1).bind fun x => some (x, x11.2) else
  if (lg_cmp x3.1 ((316163 : Int64))) = 0 then (fnX10_readPart x3.2 a0 v4).bind fun x10 =>
  (pz_b x10.1).bind fun x => some (x, x10.2) else
  if (lg_cmp x3.1 ((6570631 : Int64))) = 0 then (fnX10_readLives x3.2 a0 v4).bind fun x9 =>
  (pz_b x9.1).bind fun x => some (x, x9.2) else
  if (lg_cmp x3.1 ((1831504 : Int64))) = 0 then fX10_readStatement_119 x3.2 a0 x3.1 v4 else
  if (lg_cmp x3.1 ((247664 : Int64))) = 0 then fX10_readStatement_119 x3.2 a0 x3.1 v4 else
  if (lg_cmp x3.1 ((85447 : Int64))) = 0 then fX10_readStatement_154 x3.2 a0 x3.1 v4 else
  if (lg_cmp x3.1 ((261338243 : Int64))) = 0 then fX10_readStatement_154 x3.2 a0 x3.1 v4 else
  (fnX10_termOf x3.1).bind fun x5 =>
  if x5 = ((-1) : Int32) then (fnX10_fails x3.2 a0 ((1 : Int32)) v4).bind fun x8 =>
  fX10_readStatement_200 x8.2 x8.1 else
  (fnX10_termOf x3.1).bind fun x6 =>
  (fnX10_readOne x3.2 a0 v4 x6).bind fun x7 =>
  fX10_readStatement_200 x7.2 x7.1
theorem mX10_readStatement {l : Launch} {G : pz_G} {f : pz_H} {a0 : Nat} {r : (Int32 × pz_H)} (hf : fnX10_readStatement f a0 = some r) : pz_Met l G yX10_readStatement cX10_readStatement 4 (some .boolean) 5 110 0 0 [.ref a0] f (some (.int r.1)) r.2 ∧ pz_is f a0 9 = some () := by
  unfold fnX10_readStatement at hf
  obtain ⟨_, h0, hf⟩ := pz_bd hf
  refine ⟨pz_enter (by decide +kernel) (Nat.le_of_ble_eq_true rfl) (fun C hl hC hK hnm => ?_), h0⟩
  subst hl
  refine pz_sub (lv' := [(0, .ref a0)]) [0] rfl ?_
  refine pz_aload_n hC dX10_readStatement_0 0 rfl ?_
  refine pz_Viw (As := []) hC hK dX10_readStatement_1 py_X10_here pv_X10_here lk_X10_228 hf (fun _ h => mX10_here h) rfl rfl (Nat.le_of_ble_eq_true rfl) ⟨by decide, by decide⟩ ⟨Nat.le_of_ble_eq_true rfl, Nat.le_of_ble_eq_true rfl⟩ (fun x1 hf => ?_)
  refine pz_bipush (v := (97 : Int32)) hC dX10_readStatement_4 (by decide) ?_
  refine pz_bipush (v := (122 : Int32)) hC dX10_readStatement_6 (by decide) ?_
  refine pz_Si (As := [.int x1.1, .int (97 : Int32), .int (122 : Int32)]) hC hK dX10_readStatement_8 py_X10_in ps_X10_in lk_X10_52 hf (fun _ h => mX10_in h) rfl rfl (Nat.le_of_ble_eq_true rfl) ⟨by decide, by decide⟩ ⟨by decide, by decide⟩ (fun x2 hf => ?_)
  refine pz_if_ne hC dX10_readStatement_11 hf (fun _ hf => ?_) (fun _ hf => ?_)
  · refine pz_aload_n hC dX10_readStatement_24 0 rfl ?_
    refine pz_Vlw (As := []) hC hK dX10_readStatement_25 py_X10_readWord pv_X10_readWord lk_X10_255 hf (fun _ h => mX10_readWord h) rfl rfl (Nat.le_of_ble_eq_true rfl) ⟨by decide, by decide⟩ ⟨Nat.le_of_ble_eq_true rfl, Nat.le_of_ble_eq_true rfl⟩ (fun x3 hf => ?_)
    refine pz_lstore_n hC dX10_readStatement_28 (by decide) rfl ?_
    refine pz_aload_n hC dX10_readStatement_29 1 rfl ?_
    refine pz_getI hC dX10_readStatement_30 fa_X10_234 hf (fun v4 hf => ?_)
    refine pz_istore_n hC dX10_readStatement_33 (by decide) rfl ?_
    refine pz_lload_n hC dX10_readStatement_34 1 rfl ?_
    refine pz_ldc2 hC dX10_readStatement_35 ck_X10_273 ?_
    refine pz_lcmp hC dX10_readStatement_38 ?_
    refine pz_if_ne hC dX10_readStatement_39 hf (fun _ hf => ?_) (fun _ hf => ?_)
    · refine pz_lload_n hC dX10_readStatement_47 1 rfl ?_
      refine pz_ldc2 hC dX10_readStatement_48 ck_X10_278 ?_
      refine pz_lcmp hC dX10_readStatement_51 ?_
      refine pz_if_ne hC dX10_readStatement_52 hf (fun _ hf => ?_) (fun _ hf => ?_)
      · refine pz_lload_n hC dX10_readStatement_61 1 rfl ?_
        refine pz_ldc2 hC dX10_readStatement_62 ck_X10_283 ?_
        refine pz_lcmp hC dX10_readStatement_65 ?_
        refine pz_if_ne hC dX10_readStatement_66 hf (fun _ hf => ?_) (fun _ hf => ?_)
        · refine pz_lload_n hC dX10_readStatement_75 1 rfl ?_
          refine pz_ldc2 hC dX10_readStatement_76 ck_X10_288 ?_
          refine pz_lcmp hC dX10_readStatement_79 ?_
          refine pz_if_ne hC dX10_readStatement_80 hf (fun _ hf => ?_) (fun _ hf => ?_)
          · refine pz_lload_n hC dX10_readStatement_89 1 rfl ?_
            refine pz_ldc2 hC dX10_readStatement_90 ck_X10_293 ?_
            refine pz_lcmp hC dX10_readStatement_93 ?_
            refine pz_if_ne hC dX10_readStatement_94 hf (fun _ hf => ?_) (fun _ hf => ?_)
            · refine pz_lload_n hC dX10_readStatement_103 1 rfl ?_
              refine pz_ldc2 hC dX10_readStatement_104 ck_X10_298 ?_
              refine pz_lcmp hC dX10_readStatement_107 ?_
              refine pz_if_eq hC dX10_readStatement_108 hf (fun _ hf => ?_) (fun _ hf => ?_)
              · refine pz_sub [2, 1, 0] rfl ?_
                exact tX10_readStatement_119 hC hK hf
              · refine pz_lload_n hC dX10_readStatement_111 1 rfl ?_
                refine pz_ldc2 hC dX10_readStatement_112 ck_X10_300 ?_
                refine pz_lcmp hC dX10_readStatement_115 ?_
                refine pz_if_ne hC dX10_readStatement_116 hf (fun _ hf => ?_) (fun _ hf => ?_)
                · refine pz_lload_n hC dX10_readStatement_138 1 rfl ?_
                  refine pz_ldc2 hC dX10_readStatement_139 ck_X10_305 ?_
                  refine pz_lcmp hC dX10_readStatement_142 ?_
                  refine pz_if_eq hC dX10_readStatement_143 hf (fun _ hf => ?_) (fun _ hf => ?_)
                  · refine pz_sub [2, 1, 0] rfl ?_
                    exact tX10_readStatement_154 hC hK hf
                  · refine pz_lload_n hC dX10_readStatement_146 1 rfl ?_
                    refine pz_ldc2 hC dX10_readStatement_147 ck_X10_307 ?_
                    refine pz_lcmp hC dX10_readStatement_150 ?_
                    refine pz_if_ne hC dX10_readStatement_151 hf (fun _ hf => ?_) (fun _ hf => ?_)
                    · refine pz_lload_n hC dX10_readStatement_174 1 rfl ?_
                      refine pz_Si (As := [.long x3.1]) hC hK dX10_readStatement_175 py_X10_termOf ps_X10_termOf lk_X10_312 hf (fun _ h => mX10_termOf h) rfl rfl (Nat.le_of_ble_eq_true rfl) ⟨by decide, by decide⟩ ⟨by decide, by decide⟩ (fun x5 hf => ?_)
                      refine pz_iconst (v := ((-1) : Int32)) hC dX10_readStatement_178 (by decide) ?_
                      refine pz_icmp_ne hC dX10_readStatement_179 hf (fun _ hf => ?_) (fun _ hf => ?_)
                      · refine pz_aload_n hC dX10_readStatement_191 2 rfl ?_
                        refine pz_iload_n hC dX10_readStatement_192 0 rfl ?_
                        refine pz_lload_n hC dX10_readStatement_193 1 rfl ?_
                        refine pz_Si (As := [.long x3.1]) hC hK dX10_readStatement_194 py_X10_termOf ps_X10_termOf lk_X10_312 hf (fun _ h => mX10_termOf h) rfl rfl (Nat.le_of_ble_eq_true rfl) ⟨by decide, by decide⟩ ⟨by decide, by decide⟩ (fun x6 hf => ?_)
                        refine pz_Viw (As := [.int v4, .int x6]) hC hK dX10_readStatement_197 py_X10_readOne pv_X10_readOne lk_X10_309 hf (fun _ h => mX10_readOne h) rfl rfl (Nat.le_of_ble_eq_true rfl) ⟨by decide, by decide⟩ ⟨Nat.le_of_ble_eq_true rfl, Nat.le_of_ble_eq_true rfl⟩ (fun x7 hf => ?_)
                        refine pz_sub [] rfl ?_
                        exact tX10_readStatement_200 hC hK hf
                      · refine pz_aload_n hC dX10_readStatement_182 2 rfl ?_
                        refine pz_iconst (v := (1 : Int32)) hC dX10_readStatement_183 (by decide) ?_
                        refine pz_iload_n hC dX10_readStatement_184 0 rfl ?_
                        refine pz_Viw (As := [.int (1 : Int32), .int v4]) hC hK dX10_readStatement_185 py_X10_fails pv_X10_fails lk_X10_231 hf (fun _ h => mX10_fails h) rfl rfl (Nat.le_of_ble_eq_true rfl) ⟨by decide, by decide⟩ ⟨Nat.le_of_ble_eq_true rfl, Nat.le_of_ble_eq_true rfl⟩ (fun x8 hf => ?_)
                        refine pz_goto hC dX10_readStatement_188 ?_
                        refine pz_sub [] rfl ?_
                        exact tX10_readStatement_200 hC hK hf
                    · refine pz_sub [2, 1, 0] rfl ?_
                      exact tX10_readStatement_154 hC hK hf
                · refine pz_sub [2, 1, 0] rfl ?_
                  exact tX10_readStatement_119 hC hK hf
            · refine pz_aload_n hC dX10_readStatement_97 2 rfl ?_
              refine pz_iload_n hC dX10_readStatement_98 0 rfl ?_
              refine pz_Viw (As := [.int v4]) hC hK dX10_readStatement_99 py_X10_readLives pv_X10_readLives lk_X10_295 hf (fun _ h => mX10_readLives h) rfl rfl (Nat.le_of_ble_eq_true rfl) ⟨by decide, by decide⟩ ⟨Nat.le_of_ble_eq_true rfl, Nat.le_of_ble_eq_true rfl⟩ (fun x9 hf => ?_)
              exact pz_zretw hC hK dX10_readStatement_102 hf
          · refine pz_aload_n hC dX10_readStatement_83 2 rfl ?_
            refine pz_iload_n hC dX10_readStatement_84 0 rfl ?_
            refine pz_Viw (As := [.int v4]) hC hK dX10_readStatement_85 py_X10_readPart pv_X10_readPart lk_X10_290 hf (fun _ h => mX10_readPart h) rfl rfl (Nat.le_of_ble_eq_true rfl) ⟨by decide, by decide⟩ ⟨Nat.le_of_ble_eq_true rfl, Nat.le_of_ble_eq_true rfl⟩ (fun x10 hf => ?_)
            exact pz_zretw hC hK dX10_readStatement_88 hf
        · refine pz_aload_n hC dX10_readStatement_69 2 rfl ?_
          refine pz_iload_n hC dX10_readStatement_70 0 rfl ?_
          refine pz_Viw (As := [.int v4]) hC hK dX10_readStatement_71 py_X10_readWed pv_X10_readWed lk_X10_285 hf (fun _ h => mX10_readWed h) rfl rfl (Nat.le_of_ble_eq_true rfl) ⟨by decide, by decide⟩ ⟨Nat.le_of_ble_eq_true rfl, Nat.le_of_ble_eq_true rfl⟩ (fun x11 hf => ?_)
          exact pz_zretw hC hK dX10_readStatement_74 hf
      · refine pz_aload_n hC dX10_readStatement_55 2 rfl ?_
        refine pz_iload_n hC dX10_readStatement_56 0 rfl ?_
        refine pz_Viw (As := [.int v4]) hC hK dX10_readStatement_57 py_X10_readServe pv_X10_readServe lk_X10_280 hf (fun _ h => mX10_readServe h) rfl rfl (Nat.le_of_ble_eq_true rfl) ⟨by decide, by decide⟩ ⟨Nat.le_of_ble_eq_true rfl, Nat.le_of_ble_eq_true rfl⟩ (fun x12 hf => ?_)
        exact pz_zretw hC hK dX10_readStatement_60 hf
    · refine pz_aload_n hC dX10_readStatement_42 2 rfl ?_
      refine pz_Viw (As := []) hC hK dX10_readStatement_43 py_X10_readBorn pv_X10_readBorn lk_X10_275 hf (fun _ h => mX10_readBorn h) rfl rfl (Nat.le_of_ble_eq_true rfl) ⟨by decide, by decide⟩ ⟨Nat.le_of_ble_eq_true rfl, Nat.le_of_ble_eq_true rfl⟩ (fun x13 hf => ?_)
      exact pz_zretw hC hK dX10_readStatement_46 hf
  · refine pz_aload_n hC dX10_readStatement_14 0 rfl ?_
    refine pz_iconst (v := (1 : Int32)) hC dX10_readStatement_15 (by decide) ?_
    refine pz_aload_n hC dX10_readStatement_16 0 rfl ?_
    refine pz_getI hC dX10_readStatement_17 fa_X10_222 hf (fun v14 hf => ?_)
    refine pz_Viw (As := [.int (1 : Int32), .int v14]) hC hK dX10_readStatement_20 py_X10_fails pv_X10_fails lk_X10_231 hf (fun _ h => mX10_fails h) rfl rfl (Nat.le_of_ble_eq_true rfl) ⟨by decide, by decide⟩ ⟨Nat.le_of_ble_eq_true rfl, Nat.le_of_ble_eq_true rfl⟩ (fun x15 hf => ?_)
    exact pz_zretw hC hK dX10_readStatement_23 hf
def fX10_tell_115 (f : pz_H) (l0 : Nat) : Option (Int32 × pz_H) :=
  (pz_gI f l0 9 20).bind fun v1 =>
  some (v1, f)
theorem tX10_tell_115 {G : pz_G} {C : pz_C} {f : pz_H} {l0 : Nat} {r : (Int32 × pz_H)} (hC : pz_OK G C cX10_tell 3 RX10) (hK : pz_K C (some .int) 6 133 0 0) (hf : fX10_tell_115 f l0 = some r) : pz_W G C 3 115 [(0, .ref l0)] [] f 0 0 (pz_Q G C (some (.int r.1)) r.2 0 0) := by
  unfold fX10_tell_115 at hf
  refine pz_aload_n hC dX10_tell_115 0 rfl ?_
  refine pz_getI hC dX10_tell_116 fa_X10_316 hf (fun v1 hf => ?_)
  exact pz_iretw hC hK dX10_tell_119 hf
def fX10_tell_122b (k122 : pz_H → Nat → Int32 → Option (Int32 × pz_H)) (f : pz_H) (l0 : Nat) (l2 : Int32) : Option (Int32 × pz_H) :=
  if (87 : Int32) ≤ l2 then some (((-1) : Int32), f) else
  (pz_gR f l0 9 1).bind fun v1 =>
  (pz_gR f l0 9 3).bind fun v2 =>
  (pz_aI f v2 0 l2).bind fun v3 =>
  (pz_tI f v1 0 l2 v3).bind fun f4 =>
  k122 f4 l0 ((l2 + 1))
theorem tX10_tell_122b {G : pz_G} {C : pz_C} {f : pz_H} {k122 : pz_H → Nat → Int32 → Option (Int32 × pz_H)} {l0 : Nat} {l2 : Int32} {r : (Int32 × pz_H)} (hC : pz_OK G C cX10_tell 3 RX10) (hK : pz_K C (some .int) 6 133 0 0) (hk122 : ∀ (g : pz_H) (a0 : Nat) (a2 : Int32), k122 g a0 a2 = some r → pz_W G C 3 122 [(0, .ref a0), (2, .int a2)] [] g 0 0 (pz_Q G C (some (.int r.1)) r.2 0 0)) (hf : fX10_tell_122b k122 f l0 l2 = some r) : pz_W G C 3 122 [(0, .ref l0), (2, .int l2)] [] f 0 0 (pz_Q G C (some (.int r.1)) r.2 0 0) := by
  unfold fX10_tell_122b at hf
  refine pz_iload_n hC dX10_tell_122 1 rfl ?_
  refine pz_bipush (v := (87 : Int32)) hC dX10_tell_123 (by decide) ?_
  refine pz_icmp_ge hC dX10_tell_125 hf (fun _ hf => ?_) (fun _ hf => ?_)
  · refine pz_iconst (v := ((-1) : Int32)) hC dX10_tell_146 (by decide) ?_
    exact pz_iretw hC hK dX10_tell_147 hf
  · refine pz_aload_n hC dX10_tell_128 0 rfl ?_
    refine pz_getR hC dX10_tell_129 fa_X10_7 hf (fun v1 hf => ?_)
    refine pz_iload_n hC dX10_tell_132 1 rfl ?_
    refine pz_aload_n hC dX10_tell_133 0 rfl ?_
    refine pz_getR hC dX10_tell_134 fa_X10_16 hf (fun v2 hf => ?_)
    refine pz_iload_n hC dX10_tell_137 1 rfl ?_
    refine pz_iald hC dX10_tell_138 hf (fun v3 hf => ?_)
    refine pz_iast hC dX10_tell_139 hf (fun f4 hf => ?_)
    refine pz_iinc (v := (l2 + 1)) hC dX10_tell_140 1 rfl rfl (by decide) rfl ?_
    refine pz_goto hC dX10_tell_143 ?_
    refine pz_sub [1, 0] rfl ?_
    exact hk122 _ _ _ hf
def fX10_tell_122 : Nat → pz_H → Nat → Int32 → Option (Int32 × pz_H)
  | 0, _, _, _ => none
  | n + 1, f, l0, l2 => fX10_tell_122b (fX10_tell_122 n) f l0 l2
theorem tX10_tell_122 {G : pz_G} {C : pz_C} {r : (Int32 × pz_H)} (hC : pz_OK G C cX10_tell 3 RX10) (hK : pz_K C (some .int) 6 133 0 0) : ∀ (N : Nat) (f : pz_H) (l0 : Nat) (l2 : Int32), fX10_tell_122 N f l0 l2 = some r → pz_W G C 3 122 [(0, .ref l0), (2, .int l2)] [] f 0 0 (pz_Q G C (some (.int r.1)) r.2 0 0) := by
  intro N
  induction N with
  | zero => intro f l0 l2 hf; cases hf
  | succ N ih => intro f l0 l2 hf; exact tX10_tell_122b hC hK (fun f l0 l2 hf => ih f l0 l2 hf) hf
def fX10_tell_78 (f : pz_H) (l0 : Nat) (l1 : Int32) : Option (Int32 × pz_H) :=
  (pz_sV f l0 9 14 (.int (0 : Int32))).bind fun f1 =>
  (pz_gI f1 l0 9 17).bind fun v2 =>
  (pz_sV f1 l0 9 15 (.int v2)).bind fun f3 =>
  (pz_sV f3 l0 9 6 (.int (0 : Int32))).bind fun f4 =>
  if l1 = 0 then fX10_tell_122 pz_F f4 l0 ((0 : Int32)) else
  (pz_gI f4 l0 9 20).bind fun v5 =>
  if v5 ≤ 0 then fX10_tell_115 f4 l0 else
  (pz_gR f4 l0 9 3).bind fun v6 =>
  (fnX10_keeps f4 l0 v6).bind fun x7 =>
  fX10_tell_115 x7 l0
theorem tX10_tell_78 {G : pz_G} {C : pz_C} {f : pz_H} {l0 : Nat} {l1 : Int32} {r : (Int32 × pz_H)} (hC : pz_OK G C cX10_tell 3 RX10) (hK : pz_K C (some .int) 6 133 0 0) (hf : fX10_tell_78 f l0 l1 = some r) : pz_W G C 3 78 [(0, .ref l0), (1, .int l1)] [] f 0 0 (pz_Q G C (some (.int r.1)) r.2 0 0) := by
  unfold fX10_tell_78 at hf
  refine pz_aload_n hC dX10_tell_78 0 rfl ?_
  refine pz_iconst (v := (0 : Int32)) hC dX10_tell_79 (by decide) ?_
  refine pz_putV hC dX10_tell_80 fp_X10_169 rfl rfl hf (fun f1 hf => ?_)
  refine pz_aload_n hC dX10_tell_83 0 rfl ?_
  refine pz_aload_n hC dX10_tell_84 0 rfl ?_
  refine pz_getI hC dX10_tell_85 fa_X10_225 hf (fun v2 hf => ?_)
  refine pz_putV hC dX10_tell_88 fp_X10_322 rfl rfl hf (fun f3 hf => ?_)
  refine pz_aload_n hC dX10_tell_91 0 rfl ?_
  refine pz_iconst (v := (0 : Int32)) hC dX10_tell_92 (by decide) ?_
  refine pz_putV hC dX10_tell_93 fp_X10_80 (by decide) (by decide) hf (fun f4 hf => ?_)
  refine pz_iload_n hC dX10_tell_96 1 rfl ?_
  refine pz_if_eq hC dX10_tell_97 hf (fun _ hf => ?_) (fun _ hf => ?_)
  · refine pz_iconst (v := (0 : Int32)) hC dX10_tell_120 (by decide) ?_
    refine pz_istore_n hC dX10_tell_121 (by decide) rfl ?_
    refine pz_sub [1, 0] rfl ?_
    exact tX10_tell_122 hC hK _ _ _ _ hf
  · refine pz_aload_n hC dX10_tell_100 0 rfl ?_
    refine pz_getI hC dX10_tell_101 fa_X10_316 hf (fun v5 hf => ?_)
    refine pz_if_le hC dX10_tell_104 hf (fun _ hf => ?_) (fun _ hf => ?_)
    · refine pz_sub [0] rfl ?_
      exact tX10_tell_115 hC hK hf
    · refine pz_aload_n hC dX10_tell_107 0 rfl ?_
      refine pz_aload_n hC dX10_tell_108 0 rfl ?_
      refine pz_getR hC dX10_tell_109 fa_X10_16 hf (fun v6 hf => ?_)
      refine pz_Vv (As := [.ref v6]) hC hK dX10_tell_112 py_X10_keeps pv_X10_keeps lk_X10_215 hf (fun _ h => mX10_keeps h) rfl rfl (Nat.le_of_ble_eq_true rfl) ⟨by decide, by decide⟩ ⟨Nat.le_of_ble_eq_true rfl, Nat.le_of_ble_eq_true rfl⟩ (fun x7 hf => ?_)
      refine pz_sub [0] rfl ?_
      exact tX10_tell_115 hC hK hf
def fX10_tell_48b (k48 : pz_H → Nat → Int32 → Option (Int32 × pz_H)) (f : pz_H) (l0 : Nat) (l1 : Int32) : Option (Int32 × pz_H) :=
  if l1 = 0 then fX10_tell_78 f l0 l1 else
  (fnX10_here f l0).bind fun x1 =>
  if x1.1 = ((-1) : Int32) then fX10_tell_78 x1.2 l0 l1 else
  (fnX10_readStatement x1.2 l0).bind fun x2 =>
  (pz_gI x2.2 l0 9 20).bind fun v3 =>
  (pz_sV x2.2 l0 9 20 (.int (v3 + (1 : Int32)))).bind fun f4 =>
  k48 f4 l0 x2.1
theorem tX10_tell_48b {G : pz_G} {C : pz_C} {f : pz_H} {k48 : pz_H → Nat → Int32 → Option (Int32 × pz_H)} {l0 : Nat} {l1 : Int32} {r : (Int32 × pz_H)} (hC : pz_OK G C cX10_tell 3 RX10) (hK : pz_K C (some .int) 6 133 0 0) (hk48 : ∀ (g : pz_H) (a0 : Nat) (a1 : Int32), k48 g a0 a1 = some r → pz_W G C 3 48 [(0, .ref a0), (1, .int a1)] [] g 0 0 (pz_Q G C (some (.int r.1)) r.2 0 0)) (hf : fX10_tell_48b k48 f l0 l1 = some r) : pz_W G C 3 48 [(0, .ref l0), (1, .int l1)] [] f 0 0 (pz_Q G C (some (.int r.1)) r.2 0 0) := by
  unfold fX10_tell_48b at hf
  refine pz_iload_n hC dX10_tell_48 1 rfl ?_
  refine pz_if_eq hC dX10_tell_49 hf (fun _ hf => ?_) (fun _ hf => ?_)
  · exact tX10_tell_78 hC hK hf
  · refine pz_aload_n hC dX10_tell_52 0 rfl ?_
    refine pz_Viw (As := []) hC hK dX10_tell_53 py_X10_here pv_X10_here lk_X10_228 hf (fun _ h => mX10_here h) rfl rfl (Nat.le_of_ble_eq_true rfl) ⟨by decide, by decide⟩ ⟨Nat.le_of_ble_eq_true rfl, Nat.le_of_ble_eq_true rfl⟩ (fun x1 hf => ?_)
    refine pz_iconst (v := ((-1) : Int32)) hC dX10_tell_56 (by decide) ?_
    refine pz_icmp_eq hC dX10_tell_57 hf (fun _ hf => ?_) (fun _ hf => ?_)
    · exact tX10_tell_78 hC hK hf
    · refine pz_aload_n hC dX10_tell_60 0 rfl ?_
      refine pz_Viw (As := []) hC hK dX10_tell_61 py_X10_readStatement pv_X10_readStatement lk_X10_319 hf (fun _ h => mX10_readStatement h) rfl rfl (Nat.le_of_ble_eq_true rfl) ⟨by decide, by decide⟩ ⟨Nat.le_of_ble_eq_true rfl, Nat.le_of_ble_eq_true rfl⟩ (fun x2 hf => ?_)
      refine pz_istore_n hC dX10_tell_64 (by decide) rfl ?_
      refine pz_aload_n hC dX10_tell_65 1 rfl ?_
      refine pz_dup hC dX10_tell_66 rfl ?_
      refine pz_getI hC dX10_tell_67 fa_X10_316 hf (fun v3 hf => ?_)
      refine pz_iconst (v := (1 : Int32)) hC dX10_tell_70 (by decide) ?_
      refine pz_iadd hC dX10_tell_71 ?_
      refine pz_putV hC dX10_tell_72 fp_X10_316 rfl rfl hf (fun f4 hf => ?_)
      refine pz_goto hC dX10_tell_75 ?_
      refine pz_sub [1, 0] rfl ?_
      exact hk48 _ _ _ hf
def fX10_tell_48 : Nat → pz_H → Nat → Int32 → Option (Int32 × pz_H)
  | 0, _, _, _ => none
  | n + 1, f, l0, l1 => fX10_tell_48b (fX10_tell_48 n) f l0 l1
theorem tX10_tell_48 {G : pz_G} {C : pz_C} {r : (Int32 × pz_H)} (hC : pz_OK G C cX10_tell 3 RX10) (hK : pz_K C (some .int) 6 133 0 0) : ∀ (N : Nat) (f : pz_H) (l0 : Nat) (l1 : Int32), fX10_tell_48 N f l0 l1 = some r → pz_W G C 3 48 [(0, .ref l0), (1, .int l1)] [] f 0 0 (pz_Q G C (some (.int r.1)) r.2 0 0) := by
  intro N
  induction N with
  | zero => intro f l0 l1 hf; cases hf
  | succ N ih => intro f l0 l1 hf; exact tX10_tell_48b hC hK (fun f l0 l1 hf => ih f l0 l1 hf) hf
def fX10_tell_7b (k7 : pz_H → Nat → Int32 → Option (Int32 × pz_H)) (f : pz_H) (l0 : Nat) (l1 : Int32) : Option (Int32 × pz_H) :=
  if (87 : Int32) ≤ l1 then (pz_sV f l0 9 20 (.int (0 : Int32))).bind fun f1 =>
  (pz_sV f1 l0 9 16 (.int (0 : Int32))).bind fun f2 =>
  (pz_sV f2 l0 9 17 (.int (0 : Int32))).bind fun f3 =>
  fX10_tell_48 pz_F f3 l0 ((1 : Int32)) else
  (pz_gR f l0 9 3).bind fun v4 =>
  (pz_gR f l0 9 1).bind fun v5 =>
  (pz_aI f v5 0 l1).bind fun v6 =>
  (pz_tI f v4 0 l1 v6).bind fun f7 =>
  k7 f7 l0 ((l1 + 1))
theorem tX10_tell_7b {G : pz_G} {C : pz_C} {f : pz_H} {k7 : pz_H → Nat → Int32 → Option (Int32 × pz_H)} {l0 : Nat} {l1 : Int32} {r : (Int32 × pz_H)} (hC : pz_OK G C cX10_tell 3 RX10) (hK : pz_K C (some .int) 6 133 0 0) (hk7 : ∀ (g : pz_H) (a0 : Nat) (a1 : Int32), k7 g a0 a1 = some r → pz_W G C 3 7 [(0, .ref a0), (1, .int a1)] [] g 0 0 (pz_Q G C (some (.int r.1)) r.2 0 0)) (hf : fX10_tell_7b k7 f l0 l1 = some r) : pz_W G C 3 7 [(0, .ref l0), (1, .int l1)] [] f 0 0 (pz_Q G C (some (.int r.1)) r.2 0 0) := by
  unfold fX10_tell_7b at hf
  refine pz_iload_n hC dX10_tell_7 1 rfl ?_
  refine pz_bipush (v := (87 : Int32)) hC dX10_tell_8 (by decide) ?_
  refine pz_icmp_ge hC dX10_tell_10 hf (fun _ hf => ?_) (fun _ hf => ?_)
  · refine pz_aload_n hC dX10_tell_31 0 rfl ?_
    refine pz_iconst (v := (0 : Int32)) hC dX10_tell_32 (by decide) ?_
    refine pz_putV hC dX10_tell_33 fp_X10_316 rfl rfl hf (fun f1 hf => ?_)
    refine pz_aload_n hC dX10_tell_36 0 rfl ?_
    refine pz_iconst (v := (0 : Int32)) hC dX10_tell_37 (by decide) ?_
    refine pz_putV hC dX10_tell_38 fp_X10_222 rfl rfl hf (fun f2 hf => ?_)
    refine pz_aload_n hC dX10_tell_41 0 rfl ?_
    refine pz_iconst (v := (0 : Int32)) hC dX10_tell_42 (by decide) ?_
    refine pz_putV hC dX10_tell_43 fp_X10_225 rfl rfl hf (fun f3 hf => ?_)
    refine pz_iconst (v := (1 : Int32)) hC dX10_tell_46 (by decide) ?_
    refine pz_istore_n hC dX10_tell_47 (by decide) rfl ?_
    refine pz_sub [1, 0] rfl ?_
    exact tX10_tell_48 hC hK _ _ _ _ hf
  · refine pz_aload_n hC dX10_tell_13 0 rfl ?_
    refine pz_getR hC dX10_tell_14 fa_X10_16 hf (fun v4 hf => ?_)
    refine pz_iload_n hC dX10_tell_17 1 rfl ?_
    refine pz_aload_n hC dX10_tell_18 0 rfl ?_
    refine pz_getR hC dX10_tell_19 fa_X10_7 hf (fun v5 hf => ?_)
    refine pz_iload_n hC dX10_tell_22 1 rfl ?_
    refine pz_iald hC dX10_tell_23 hf (fun v6 hf => ?_)
    refine pz_iast hC dX10_tell_24 hf (fun f7 hf => ?_)
    refine pz_iinc (v := (l1 + 1)) hC dX10_tell_25 1 rfl rfl (by decide) rfl ?_
    refine pz_goto hC dX10_tell_28 ?_
    refine pz_sub [1, 0] rfl ?_
    exact hk7 _ _ _ hf
def fX10_tell_7 : Nat → pz_H → Nat → Int32 → Option (Int32 × pz_H)
  | 0, _, _, _ => none
  | n + 1, f, l0, l1 => fX10_tell_7b (fX10_tell_7 n) f l0 l1
theorem tX10_tell_7 {G : pz_G} {C : pz_C} {r : (Int32 × pz_H)} (hC : pz_OK G C cX10_tell 3 RX10) (hK : pz_K C (some .int) 6 133 0 0) : ∀ (N : Nat) (f : pz_H) (l0 : Nat) (l1 : Int32), fX10_tell_7 N f l0 l1 = some r → pz_W G C 3 7 [(0, .ref l0), (1, .int l1)] [] f 0 0 (pz_Q G C (some (.int r.1)) r.2 0 0) := by
  intro N
  induction N with
  | zero => intro f l0 l1 hf; cases hf
  | succ N ih => intro f l0 l1 hf; exact tX10_tell_7b hC hK (fun f l0 l1 hf => ih f l0 l1 hf) hf
def fnX10_tell (f : pz_H) (a0 : Nat) : Option (Int32 × pz_H) :=
  (pz_is f a0 9).bind fun _ =>
  (pz_sV f a0 9 0 (.int (0 : Int32))).bind fun f1 =>
  fX10_tell_7 pz_F f1 a0 ((0 : Int32))
theorem mX10_tell {l : Launch} {G : pz_G} {f : pz_H} {a0 : Nat} {r : (Int32 × pz_H)} (hf : fnX10_tell f a0 = some r) : pz_Met l G yX10_tell cX10_tell 3 (some .int) 6 133 0 0 [.ref a0] f (some (.int r.1)) r.2 ∧ pz_is f a0 9 = some () := by
  unfold fnX10_tell at hf
  obtain ⟨_, h0, hf⟩ := pz_bd hf
  refine ⟨pz_enter (by decide +kernel) (Nat.le_of_ble_eq_true rfl) (fun C hl hC hK hnm => ?_), h0⟩
  subst hl
  refine pz_sub (lv' := [(0, .ref a0)]) [0] rfl ?_
  refine pz_aload_n hC dX10_tell_0 0 rfl ?_
  refine pz_iconst (v := (0 : Int32)) hC dX10_tell_1 (by decide) ?_
  refine pz_putV hC dX10_tell_2 fp_X10_48 rfl rfl hf (fun f1 hf => ?_)
  refine pz_iconst (v := (0 : Int32)) hC dX10_tell_5 (by decide) ?_
  refine pz_istore_n hC dX10_tell_6 (by decide) rfl ?_
  refine pz_sub [1, 0] rfl ?_
  exact tX10_tell_7 hC hK _ _ _ _ hf
def fnX10_fault (f : pz_H) (a0 : Nat) : Option (Int32 × pz_H) :=
  (pz_is f a0 9).bind fun _ =>
  (pz_sV f a0 9 0 (.int (0 : Int32))).bind fun f1 =>
  (pz_gI f1 a0 9 15).bind fun v2 =>
  some (v2, f1)
theorem mX10_fault {l : Launch} {G : pz_G} {f : pz_H} {a0 : Nat} {r : (Int32 × pz_H)} (hf : fnX10_fault f a0 = some r) : pz_Met l G yX10_fault cX10_fault 1 (some .int) 0 0 0 0 [.ref a0] f (some (.int r.1)) r.2 ∧ pz_is f a0 9 = some () := by
  unfold fnX10_fault at hf
  obtain ⟨_, h0, hf⟩ := pz_bd hf
  refine ⟨pz_enter (by decide +kernel) (Nat.le_of_ble_eq_true rfl) (fun C hl hC hK hnm => ?_), h0⟩
  subst hl
  refine pz_sub (lv' := [(0, .ref a0)]) [0] rfl ?_
  refine pz_aload_n hC dX10_fault_0 0 rfl ?_
  refine pz_iconst (v := (0 : Int32)) hC dX10_fault_1 (by decide) ?_
  refine pz_putV hC dX10_fault_2 fp_X10_48 rfl rfl hf (fun f1 hf => ?_)
  refine pz_aload_n hC dX10_fault_5 0 rfl ?_
  refine pz_getI hC dX10_fault_6 fa_X10_322 hf (fun v2 hf => ?_)
  exact pz_iretw hC hK dX10_fault_9 hf
