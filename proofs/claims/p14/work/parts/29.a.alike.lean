/-- alike but for the memo -/
def Eq8 (s s' : gS) : Prop := (s'.1 = s.1 ∧ s'.2.1 = s.2.1 ∧ s'.2.2.2 = s.2.2.2) ∧ (gR s 217 1 = 218 ∧ gR s 217 7 = 222 ∧ gR s 217 14 = 223) ∧ ∀ a k, a ≠ 228 → gI s' a k = gI s a k
def gG {Q : Type} (P : Q → Q → Prop) (x x' : Option Q) : Prop := ∀ r r', x = some r → x' = some r' → P r r'
def PE (r r' : gO) : Prop := r'.1 = r.1 ∧ r'.2.1 = r.2.1 ∧ r'.2.2.1 = r.2.2.1 ∧ Eq8 r.2.2.2 r'.2.2.2
def PS {σ Q : Type} (R : σ → σ → Prop) (P : Q → Q → Prop) : σ ⊕ Q → σ ⊕ Q → Prop
  | Sum.inl y, Sum.inl y' => R y y'
  | Sum.inr r, Sum.inr r' => P r r'
  | _, _ => False
section GG
variable {Q : Type} {P : Q → Q → Prop} {x x' y y' : Option Q} {s s' : gS}
theorem E_R (h : Eq8 s s') (a k : Nat) : gR s' a k = gR s a k := by unfold gR; rw [h.1.2.2]
theorem E_i (h : Eq8 s s') (k : Nat) : gI s' 217 k = gI s 217 k := h.2.2 217 k (by decide)
theorem E_1 (h : Eq8 s s') (k : Nat) : gI s' (gR s 217 1) k = gI s (gR s 217 1) k := h.2.2 _ k (by rw [h.2.1.1]; decide)
theorem E_7 (h : Eq8 s s') (k : Nat) : gI s' (gR s 217 7) k = gI s (gR s 217 7) k := h.2.2 _ k (by rw [h.2.1.2.1]; decide)
theorem E_14 (h : Eq8 s s') (k : Nat) : gI s' (gR s 217 14) k = gI s (gR s 217 14) k := h.2.2 _ k (by rw [h.2.1.2.2]; decide)
theorem E_w {a k : Nat} {v : Int} (h : Eq8 s s') : Eq8 (gw s a k v) (gw s' a k v) := by
  refine ⟨h.1, h.2.1, fun b j hb => ?_⟩
  show (if b = a ∧ j = k then v else gI s' b j) = (if b = a ∧ j = k then v else gI s b j)
  rw [h.2.2 b j hb]
theorem gG_ret {r r' : Q} (h : P r r') : gG P (some r) (some r') := fun q q' e e' => by cases e; cases e'; exact h
theorem gG_none : gG P (none : Option Q) x' := fun q q' e => by cases e
theorem gG_ite {c : Prop} [Decidable c] (h1 : gG P x x') (h2 : gG P y y') : gG P (if c then x else y) (if c then x' else y') := by
  by_cases h : c
  · rw [if_pos h, if_pos h]; exact h1
  · rw [if_neg h, if_neg h]; exact h2
theorem gG_chk {j n : Int} (k : gG P x x') : gG P (gchk j n x) (gchk j n x') := by
  unfold gchk
  exact gG_ite k gG_none
theorem gG_bool {v : Int} (k : gG P x x') : gG P (gbool v x) (gbool v x') := by
  unfold gbool
  exact gG_ite k gG_none
theorem gG_map {R : Type} {f : Q → R} {P : R → R → Prop} (h : gG (fun r r' => P (f r) (f r')) x x') : gG P (x.map f) (x'.map f) := by
  intro q q' e e'
  cases x with
  | none => cases e
  | some r =>
    cases x' with
    | none => cases e'
    | some r' => cases e; cases e'; exact h r r' rfl rfl
theorem gG_v0 {z z' : Option gO} {E E' : gS → Option Q} (h : gG PE z z') (k : ∀ s s', Eq8 s s' → gG P (E s) (E' s')) : gG P (z.bind (gv0 E)) (z'.bind (gv0 E')) := by
  cases z with
  | none => exact gG_none
  | some r =>
    cases z' with
    | none => intro q q' e e'; cases e'
    | some r' =>
      obtain ⟨h1, h2, h3, h4⟩ := h r r' rfl rfl
      show gG P (gv0 E r) (gv0 E' r')
      unfold gv0
      rw [h1]
      exact gG_ite (k _ _ h4) gG_none
theorem gG_v1 {z z' : Option gO} {E E' : Int → gS → Option Q} (h : gG PE z z') (k : ∀ v s s', Eq8 s s' → gG P (E v s) (E' v s')) : gG P (z.bind (gv1 E)) (z'.bind (gv1 E')) := by
  cases z with
  | none => exact gG_none
  | some r =>
    cases z' with
    | none => intro q q' e e'; cases e'
    | some r' =>
      obtain ⟨h1, h2, h3, h4⟩ := h r r' rfl rfl
      show gG P (gv1 E r) (gv1 E' r')
      unfold gv1
      rw [h1, h2]
      exact gG_ite (k _ _ _ h4) gG_none
theorem gloop_out {σ : Type} {step : σ → Option (σ ⊕ Q)} {y : σ} {r : Q} (h : gloop step y = some r) : ∃ n, giter step n y = some r := by
  unfold gloop at h
  by_cases hx : ∃ r n, giter step n y = some r
  · rw [dif_pos hx] at h
    cases h
    exact hx.choose_spec
  · rw [dif_neg hx] at h
    cases h
theorem gG_loop {σ : Type} {step step' : σ → Option (σ ⊕ Q)} (R : σ → σ → Prop) (h : ∀ y y', R y y' → gG (PS R P) (step y) (step' y')) {y y' : σ} (h0 : R y y') : gG P (gloop step y) (gloop step' y') := by
  intro r r' e e'
  obtain ⟨n, hn0⟩ := gloop_out e
  obtain ⟨m, hm0⟩ := gloop_out e'
  have hn := giter_le hn0 (Nat.le_max_left n m)
  have hm := giter_le hm0 (Nat.le_max_right n m)
  clear e e' hn0 hm0
  generalize max n m = k at hn hm
  induction k generalizing y y' with
  | zero => cases hn
  | succ k ih =>
    have hn : (step y).bind (Sum.elim (giter step k) some) = some r := hn
    have hm : (step' y').bind (Sum.elim (giter step' k) some) = some r' := hm
    have hs := h y y' h0
    cases e1 : step y with
    | none => rw [e1] at hn; cases hn
    | some q =>
      cases e2 : step' y' with
      | none => rw [e2] at hm; cases hm
      | some q' =>
        have hq := hs q q' e1 e2
        rw [e1] at hn
        rw [e2] at hm
        cases q with
        | inl z =>
          cases q' with
          | inl z' => exact ih hq hn hm
          | inr _ => exact hq.elim
        | inr z =>
          cases q' with
          | inl _ => exact hq.elim
          | inr z' =>
            cases hn
            cases hm
            exact hq
end GG
theorem n_266 {a : Nat} {s s' : gS} (h : Eq8 s s') : gG PE (f_266 a s) (f_266 a s') := gG_ret ⟨rfl, rfl, rfl, h⟩
theorem n_267 {a : Nat} {j : Int} {s s' : gS} (h : Eq8 s s') : gG PE (f_267 a j s) (f_267 a j s') := gG_chk (gG_ret ⟨rfl, rfl, rfl, h⟩)

theorem n_150  {a0 : Int} {a1 : Int} {a2 : Int} {s s' : gS}  (h : Eq8 s s') : gG PE (f_150 a0 a1 a2 s) (f_150 a0 a1 a2 s') := by
  unfold f_150
  try simp only [E_R h, E_i h, E_1 h, E_7 h, E_14 h]
  refine gG_ite ?_ ?_
  · unfold fb_150_14
    try simp only [E_R h, E_i h, E_1 h, E_7 h, E_14 h]
    exact gG_ret ⟨rfl, rfl, rfl, h⟩
  · refine gG_ite ?_ ?_
    · unfold fb_150_14
      try simp only [E_R h, E_i h, E_1 h, E_7 h, E_14 h]
      exact gG_ret ⟨rfl, rfl, rfl, h⟩
    · exact gG_ret ⟨rfl, rfl, rfl, h⟩

theorem n_151  {a0 : Int} {a1 : Int} {s s' : gS}  (h : Eq8 s s') : gG PE (f_151 a0 a1 s) (f_151 a0 a1 s') := by
  unfold f_151
  try simp only [E_R h, E_i h, E_1 h, E_7 h, E_14 h]
  refine gG_ite ?_ ?_
  · exact gG_ret ⟨rfl, rfl, rfl, h⟩
  · exact gG_ret ⟨rfl, rfl, rfl, h⟩

theorem n_152  {a0 : Int} {a1 : Int} {s s' : gS}  (h : Eq8 s s') : gG PE (f_152 a0 a1 s) (f_152 a0 a1 s') := by
  unfold f_152
  try simp only [E_R h, E_i h, E_1 h, E_7 h, E_14 h]
  refine gG_ite ?_ ?_
  · exact gG_ret ⟨rfl, rfl, rfl, h⟩
  · exact gG_ret ⟨rfl, rfl, rfl, h⟩

theorem n_153  {a0 : Int} {a1 : Int} {s s' : gS}  (h : Eq8 s s') : gG PE (f_153 a0 a1 s) (f_153 a0 a1 s') := by
  unfold f_153
  try simp only [E_R h, E_i h, E_1 h, E_7 h, E_14 h]
  refine gG_ite ?_ ?_
  · exact gG_ret ⟨rfl, rfl, rfl, h⟩
  · exact gG_ret ⟨rfl, rfl, rfl, h⟩

theorem n_154  {a0 : Int} {s s' : gS}  (h : Eq8 s s') : gG PE (f_154 a0 s) (f_154 a0 s') := by
  unfold f_154
  try simp only [E_R h, E_i h, E_1 h, E_7 h, E_14 h]
  refine gG_loop (fun y y' => y.1 = y'.1 ∧ y.2.1 = y'.2.1 ∧ y.2.2.1 = y'.2.2.1 ∧ Eq8 y.2.2.2 y'.2.2.2) (fun y y' hy => ?_) ⟨rfl, rfl, rfl, h⟩
  obtain ⟨x0, x1, x2, u4⟩ := y
  obtain ⟨z1, z2, z3, u4p⟩ := y'
  obtain ⟨e5, e6, e7, h8⟩ := hy
  dsimp only at e5 e6 e7 h8
  subst e5 e6 e7
  show gG _ (sb_154_4 x0 x1 x2 u4) (sb_154_4 x0 x1 x2 u4p)
  unfold sb_154_4
  dsimp only
  try simp only [E_R h8, E_i h8, E_1 h8, E_7 h8, E_14 h8]
  refine gG_ite ?_ ?_
  · exact gG_ret ⟨rfl, rfl, rfl, h8⟩
  · refine gG_map ?_
    exact gG_ret ⟨rfl, rfl, rfl, h8⟩

theorem n_156  {a1 : Int} {a2 : Int} {s s' : gS}  (h : Eq8 s s') : gG PE (f_156 217 a1 a2 s) (f_156 217 a1 a2 s') := by
  unfold f_156
  try simp only [E_R h, E_i h, E_1 h, E_7 h, E_14 h]
  refine gG_chk ?_
  exact gG_ret ⟨rfl, rfl, rfl, h⟩

theorem n_157  {a1 : Int} {a2 : Int} {a3 : Int} {s s' : gS}  (h : Eq8 s s') : gG PE (f_157 217 a1 a2 a3 s) (f_157 217 a1 a2 a3 s') := by
  unfold f_157
  dsimp only
  try simp only [E_R h, E_i h, E_1 h, E_7 h, E_14 h]
  have hs10 : Eq8 (gw s (gR s 217 1) ((g32 ((g32 (40 + (g32 (6 * a1)))) + a2)) : Int).toNat a3) (gw s' (gR s 217 1) ((g32 ((g32 (40 + (g32 (6 * a1)))) + a2)) : Int).toNat a3) := (E_w h)
  try simp only [E_R hs10, E_i hs10, E_1 hs10, E_7 hs10, E_14 hs10]
  refine gG_chk ?_
  exact gG_ret ⟨rfl, rfl, rfl, hs10⟩

theorem n_168  {a1 : Int} {s s' : gS}  (h : Eq8 s s') : gG PE (f_168 217 a1 s) (f_168 217 a1 s') := by
  unfold f_168
  try simp only [E_R h, E_i h, E_1 h, E_7 h, E_14 h]
  refine gG_ite ?_ ?_
  · refine gG_chk ?_
    exact gG_ret ⟨rfl, rfl, rfl, h⟩
  · refine gG_chk ?_
    exact gG_ret ⟨rfl, rfl, rfl, h⟩

theorem n_169   {s s' : gS}  (h : Eq8 s s') : gG PE (f_169 217 s) (f_169 217 s') := by
  unfold f_169
  try simp only [E_R h, E_i h, E_1 h, E_7 h, E_14 h]
  refine gG_loop (fun y y' => y.1 = 217 ∧ y.1 = y'.1 ∧ Eq8 y.2 y'.2) (fun y y' hy => ?_) ⟨rfl, rfl, h⟩
  obtain ⟨x0, u12⟩ := y
  obtain ⟨z11, u12p⟩ := y'
  obtain ⟨e15, e13, h14⟩ := hy
  dsimp only at e15 e13 h14
  subst e13 e15
  show gG _ (sb_169_0 217 u12) (sb_169_0 217 u12p)
  unfold sb_169_0
  dsimp only
  try simp only [E_R h14, E_i h14, E_1 h14, E_7 h14, E_14 h14]
  refine gG_ite ?_ ?_
  · refine gG_v1 (n_168 h14) (fun v2 s1 s1p h16 => ?_)
    try simp only [E_R h16, E_i h16, E_1 h16, E_7 h16, E_14 h16]
    have hs17 : Eq8 (gw s1 217 11 (g32 ((gI s1 217 11) + 1))) (gw s1p 217 11 (g32 ((gI s1 217 11) + 1))) := (E_w h16)
    try simp only [E_R hs17, E_i hs17, E_1 hs17, E_7 hs17, E_14 hs17]
    refine gG_ite ?_ ?_
    · exact gG_ret ⟨rfl, rfl, hs17⟩
    · refine gG_map ?_
      exact gG_ret ⟨rfl, rfl, rfl, h16⟩
  · refine gG_map ?_
    exact gG_ret ⟨rfl, rfl, rfl, h14⟩

theorem n_170  {a1 : Int} {s s' : gS}  (h : Eq8 s s') : gG PE (f_170 217 a1 s) (f_170 217 a1 s') := by
  unfold f_170
  try simp only [E_R h, E_i h, E_1 h, E_7 h, E_14 h]
  refine gG_v0 (n_169 h) (fun s1 s1p h18 => ?_)
  try simp only [E_R h18, E_i h18, E_1 h18, E_7 h18, E_14 h18]
  refine gG_ite ?_ ?_
  · refine gG_v1 (n_168 h18) (fun v4 s3 s3p h19 => ?_)
    try simp only [E_R h19, E_i h19, E_1 h19, E_7 h19, E_14 h19]
    refine gG_ite ?_ ?_
    · exact gG_ret ⟨rfl, rfl, rfl, h19⟩
    · unfold fb_170_31
      try simp only [E_R h19, E_i h19, E_1 h19, E_7 h19, E_14 h19]
      exact gG_ret ⟨rfl, rfl, rfl, h19⟩
  · unfold fb_170_31
    try simp only [E_R h18, E_i h18, E_1 h18, E_7 h18, E_14 h18]
    exact gG_ret ⟨rfl, rfl, rfl, h18⟩

theorem n_171  {a1 : Nat} {s s' : gS}  (h : Eq8 s s') : gG PE (f_171 217 a1 s) (f_171 217 a1 s') := by
  unfold f_171
  try simp only [E_R h, E_i h, E_1 h, E_7 h, E_14 h]
  refine gG_v0 (n_169 h) (fun s1 s1p h20 => ?_)
  try simp only [E_R h20, E_i h20, E_1 h20, E_7 h20, E_14 h20]
  refine gG_loop (fun y y' => y.1 = 217 ∧ y.1 = y'.1 ∧ y.2.1 = y'.2.1 ∧ y.2.2.1 = y'.2.2.1 ∧ Eq8 y.2.2.2 y'.2.2.2) (fun y y' hy => ?_) ⟨rfl, rfl, rfl, rfl, h20⟩
  obtain ⟨x0, x1, x2, u24⟩ := y
  obtain ⟨z21, z22, z23, u24p⟩ := y'
  obtain ⟨e29, e25, e26, e27, h28⟩ := hy
  dsimp only at e29 e25 e26 e27 h28
  subst e25 e26 e27 e29
  show gG _ (sb_171_9 217 x1 x2 u24) (sb_171_9 217 x1 x2 u24p)
  unfold sb_171_9
  try simp only [E_R h28, E_i h28, E_1 h28, E_7 h28, E_14 h28]
  refine gG_ite ?_ ?_
  · refine gG_v1 (n_168 h28) (fun v4 s3 s3p h30 => ?_)
    try simp only [E_R h30, E_i h30, E_1 h30, E_7 h30, E_14 h30]
    refine gG_v1 (n_150 h30) (fun v6 s5 s5p h31 => ?_)
    try simp only [E_R h31, E_i h31, E_1 h31, E_7 h31, E_14 h31]
    refine gG_ite ?_ ?_
    · refine gG_map ?_
      unfold fb_171_38
      try simp only [E_R h31, E_i h31, E_1 h31, E_7 h31, E_14 h31]
      refine gG_v1 (n_266 h31) (fun v9 s8 s8p h32 => ?_)
      try simp only [E_R h32, E_i h32, E_1 h32, E_7 h32, E_14 h32]
      refine gG_ite ?_ ?_
      · refine gG_loop (fun y y' => y.1 = 217 ∧ y.1 = y'.1 ∧ y.2.1 = y'.2.1 ∧ y.2.2.1 = y'.2.2.1 ∧ y.2.2.2.1 = y'.2.2.2.1 ∧ Eq8 y.2.2.2.2 y'.2.2.2.2) (fun y y' hy => ?_) ⟨rfl, rfl, rfl, rfl, rfl, h32⟩
        obtain ⟨x0, x1, x2, x3, u37⟩ := y
        obtain ⟨z33, z34, z35, z36, u37p⟩ := y'
        obtain ⟨e43, e38, e39, e40, e41, h42⟩ := hy
        dsimp only at e43 e38 e39 e40 e41 h42
        subst e38 e39 e40 e41 e43
        show gG _ (sb_171_55 217 x1 x2 x3 u37) (sb_171_55 217 x1 x2 x3 u37p)
        unfold sb_171_55
        dsimp only
        try simp only [E_R h42, E_i h42, E_1 h42, E_7 h42, E_14 h42]
        refine gG_v1 (n_266 h42) (fun v11 s10 s10p h44 => ?_)
        try simp only [E_R h44, E_i h44, E_1 h44, E_7 h44, E_14 h44]
        have hs45 : Eq8 (gw s10 217 11 x2) (gw s10p 217 11 x2) := (E_w h44)
        try simp only [E_R hs45, E_i hs45, E_1 hs45, E_7 hs45, E_14 hs45]
        refine gG_ite ?_ ?_
        · refine gG_v1 (n_168 h44) (fun v13 s12 s12p h46 => ?_)
          try simp only [E_R h46, E_i h46, E_1 h46, E_7 h46, E_14 h46]
          refine gG_v1 (n_267 h46) (fun v15 s14 s14p h47 => ?_)
          try simp only [E_R h47, E_i h47, E_1 h47, E_7 h47, E_14 h47]
          refine gG_ite ?_ ?_
          · exact gG_ret ⟨rfl, rfl, rfl, rfl, rfl, h47⟩
          · refine gG_map ?_
            exact gG_ret ⟨rfl, rfl, rfl, h47⟩
        · refine gG_map ?_
          exact gG_ret ⟨rfl, rfl, rfl, hs45⟩
      · exact gG_ret ⟨rfl, rfl, rfl, h32⟩
    · exact gG_ret ⟨rfl, rfl, rfl, rfl, h31⟩
  · refine gG_map ?_
    unfold fb_171_38
    try simp only [E_R h28, E_i h28, E_1 h28, E_7 h28, E_14 h28]
    refine gG_v1 (n_266 h28) (fun v9 s8 s8p h48 => ?_)
    try simp only [E_R h48, E_i h48, E_1 h48, E_7 h48, E_14 h48]
    refine gG_ite ?_ ?_
    · refine gG_loop (fun y y' => y.1 = 217 ∧ y.1 = y'.1 ∧ y.2.1 = y'.2.1 ∧ y.2.2.1 = y'.2.2.1 ∧ y.2.2.2.1 = y'.2.2.2.1 ∧ Eq8 y.2.2.2.2 y'.2.2.2.2) (fun y y' hy => ?_) ⟨rfl, rfl, rfl, rfl, rfl, h48⟩
      obtain ⟨x0, x1, x2, x3, u53⟩ := y
      obtain ⟨z49, z50, z51, z52, u53p⟩ := y'
      obtain ⟨e59, e54, e55, e56, e57, h58⟩ := hy
      dsimp only at e59 e54 e55 e56 e57 h58
      subst e54 e55 e56 e57 e59
      show gG _ (sb_171_55 217 x1 x2 x3 u53) (sb_171_55 217 x1 x2 x3 u53p)
      unfold sb_171_55
      dsimp only
      try simp only [E_R h58, E_i h58, E_1 h58, E_7 h58, E_14 h58]
      refine gG_v1 (n_266 h58) (fun v11 s10 s10p h60 => ?_)
      try simp only [E_R h60, E_i h60, E_1 h60, E_7 h60, E_14 h60]
      have hs61 : Eq8 (gw s10 217 11 x2) (gw s10p 217 11 x2) := (E_w h60)
      try simp only [E_R hs61, E_i hs61, E_1 hs61, E_7 hs61, E_14 hs61]
      refine gG_ite ?_ ?_
      · refine gG_v1 (n_168 h60) (fun v13 s12 s12p h62 => ?_)
        try simp only [E_R h62, E_i h62, E_1 h62, E_7 h62, E_14 h62]
        refine gG_v1 (n_267 h62) (fun v15 s14 s14p h63 => ?_)
        try simp only [E_R h63, E_i h63, E_1 h63, E_7 h63, E_14 h63]
        refine gG_ite ?_ ?_
        · exact gG_ret ⟨rfl, rfl, rfl, rfl, rfl, h63⟩
        · refine gG_map ?_
          exact gG_ret ⟨rfl, rfl, rfl, h63⟩
      · refine gG_map ?_
        exact gG_ret ⟨rfl, rfl, rfl, hs61⟩
    · exact gG_ret ⟨rfl, rfl, rfl, h48⟩

theorem n_172  {a1 : Int} {s s' : gS}  (h : Eq8 s s') : gG PE (f_172 217 a1 s) (f_172 217 a1 s') := by
  unfold f_172
  dsimp only
  try simp only [E_R h, E_i h, E_1 h, E_7 h, E_14 h]
  have hs64 : Eq8 (gw s 217 12 a1) (gw s' 217 12 a1) := (E_w h)
  try simp only [E_R hs64, E_i hs64, E_1 hs64, E_7 hs64, E_14 hs64]
  refine gG_ite ?_ ?_
  · exact gG_ret ⟨rfl, rfl, rfl, hs64⟩
  · exact gG_ret ⟨rfl, rfl, rfl, h⟩

theorem n_173   {s s' : gS}  (h : Eq8 s s') : gG PE (f_173 217 s) (f_173 217 s') := by
  unfold f_173
  try simp only [E_R h, E_i h, E_1 h, E_7 h, E_14 h]
  refine gG_v0 (n_169 h) (fun s1 s1p h65 => ?_)
  try simp only [E_R h65, E_i h65, E_1 h65, E_7 h65, E_14 h65]
  exact gG_ret ⟨rfl, rfl, rfl, h65⟩

theorem n_174  {a1 : Int} {a2 : Int} {s s' : gS}  (h : Eq8 s s') : gG PE (f_174 217 a1 a2 s) (f_174 217 a1 a2 s') := by
  unfold f_174
  try simp only [E_R h, E_i h, E_1 h, E_7 h, E_14 h]
  refine gG_ite ?_ ?_
  · refine gG_v1 (n_173 h) (fun v2 s1 s1p h66 => ?_)
    try simp only [E_R h66, E_i h66, E_1 h66, E_7 h66, E_14 h66]
    refine gG_loop (fun y y' => y.1 = 217 ∧ y.1 = y'.1 ∧ y.2.1 = y'.2.1 ∧ y.2.2.1 = y'.2.2.1 ∧ y.2.2.2.1 = y'.2.2.2.1 ∧ y.2.2.2.2.1 = y'.2.2.2.2.1 ∧ Eq8 y.2.2.2.2.2 y'.2.2.2.2.2) (fun y y' hy => ?_) ⟨rfl, rfl, rfl, rfl, rfl, rfl, h66⟩
    obtain ⟨x0, x1, x2, x3, x4, u72⟩ := y
    obtain ⟨z67, z68, z69, z70, z71, u72p⟩ := y'
    obtain ⟨e79, e73, e74, e75, e76, e77, h78⟩ := hy
    dsimp only at e79 e73 e74 e75 e76 e77 h78
    subst e73 e74 e75 e76 e77 e79
    show gG _ (sb_174_18 217 x1 x2 x3 x4 u72) (sb_174_18 217 x1 x2 x3 x4 u72p)
    unfold sb_174_18
    dsimp only
    try simp only [E_R h78, E_i h78, E_1 h78, E_7 h78, E_14 h78]
    refine gG_ite ?_ ?_
    · refine gG_v1 (n_168 h78) (fun v4 s3 s3p h80 => ?_)
      try simp only [E_R h80, E_i h80, E_1 h80, E_7 h80, E_14 h80]
      refine gG_v1 (n_150 h80) (fun v6 s5 s5p h81 => ?_)
      try simp only [E_R h81, E_i h81, E_1 h81, E_7 h81, E_14 h81]
      refine gG_ite ?_ ?_
      · refine gG_map ?_
        unfold fb_174_89
        try simp only [E_R h81, E_i h81, E_1 h81, E_7 h81, E_14 h81]
        refine gG_ite ?_ ?_
        · unfold fb_174_119
          try simp only [E_R h81, E_i h81, E_1 h81, E_7 h81, E_14 h81]
          refine gG_v0 (n_172 h81) (fun s8 s8p h82 => ?_)
          try simp only [E_R h82, E_i h82, E_1 h82, E_7 h82, E_14 h82]
          exact gG_ret ⟨rfl, rfl, rfl, h82⟩
        · refine gG_ite ?_ ?_
          · unfold fb_174_119
            try simp only [E_R h81, E_i h81, E_1 h81, E_7 h81, E_14 h81]
            refine gG_v0 (n_172 h81) (fun s8 s8p h83 => ?_)
            try simp only [E_R h83, E_i h83, E_1 h83, E_7 h83, E_14 h83]
            exact gG_ret ⟨rfl, rfl, rfl, h83⟩
          · refine gG_ite ?_ ?_
            · unfold fb_174_119
              try simp only [E_R h81, E_i h81, E_1 h81, E_7 h81, E_14 h81]
              refine gG_v0 (n_172 h81) (fun s8 s8p h84 => ?_)
              try simp only [E_R h84, E_i h84, E_1 h84, E_7 h84, E_14 h84]
              exact gG_ret ⟨rfl, rfl, rfl, h84⟩
            · refine gG_ite ?_ ?_
              · unfold fb_174_119
                try simp only [E_R h81, E_i h81, E_1 h81, E_7 h81, E_14 h81]
                refine gG_v0 (n_172 h81) (fun s8 s8p h85 => ?_)
                try simp only [E_R h85, E_i h85, E_1 h85, E_7 h85, E_14 h85]
                exact gG_ret ⟨rfl, rfl, rfl, h85⟩
              · exact gG_ret ⟨rfl, rfl, rfl, h81⟩
      · refine gG_ite ?_ ?_
        · refine gG_map ?_
          unfold fb_174_89
          try simp only [E_R h81, E_i h81, E_1 h81, E_7 h81, E_14 h81]
          refine gG_ite ?_ ?_
          · unfold fb_174_119
            try simp only [E_R h81, E_i h81, E_1 h81, E_7 h81, E_14 h81]
            refine gG_v0 (n_172 h81) (fun s8 s8p h86 => ?_)
            try simp only [E_R h86, E_i h86, E_1 h86, E_7 h86, E_14 h86]
            exact gG_ret ⟨rfl, rfl, rfl, h86⟩
          · refine gG_ite ?_ ?_
            · unfold fb_174_119
              try simp only [E_R h81, E_i h81, E_1 h81, E_7 h81, E_14 h81]
              refine gG_v0 (n_172 h81) (fun s8 s8p h87 => ?_)
              try simp only [E_R h87, E_i h87, E_1 h87, E_7 h87, E_14 h87]
              exact gG_ret ⟨rfl, rfl, rfl, h87⟩
            · refine gG_ite ?_ ?_
              · unfold fb_174_119
                try simp only [E_R h81, E_i h81, E_1 h81, E_7 h81, E_14 h81]
                refine gG_v0 (n_172 h81) (fun s8 s8p h88 => ?_)
                try simp only [E_R h88, E_i h88, E_1 h88, E_7 h88, E_14 h88]
                exact gG_ret ⟨rfl, rfl, rfl, h88⟩
              · refine gG_ite ?_ ?_
                · unfold fb_174_119
                  try simp only [E_R h81, E_i h81, E_1 h81, E_7 h81, E_14 h81]
                  refine gG_v0 (n_172 h81) (fun s8 s8p h89 => ?_)
                  try simp only [E_R h89, E_i h89, E_1 h89, E_7 h89, E_14 h89]
                  exact gG_ret ⟨rfl, rfl, rfl, h89⟩
                · exact gG_ret ⟨rfl, rfl, rfl, h81⟩
        · refine gG_v1 (n_168 h81) (fun v11 s10 s10p h90 => ?_)
          try simp only [E_R h90, E_i h90, E_1 h90, E_7 h90, E_14 h90]
          have hs91 : Eq8 (gw s10 217 11 (g32 ((gI s10 217 11) + 1))) (gw s10p 217 11 (g32 ((gI s10 217 11) + 1))) := (E_w h90)
          try simp only [E_R hs91, E_i hs91, E_1 hs91, E_7 hs91, E_14 hs91]
          exact gG_ret ⟨rfl, rfl, rfl, rfl, rfl, rfl, hs91⟩
    · refine gG_map ?_
      unfold fb_174_89
      try simp only [E_R h78, E_i h78, E_1 h78, E_7 h78, E_14 h78]
      refine gG_ite ?_ ?_
      · unfold fb_174_119
        try simp only [E_R h78, E_i h78, E_1 h78, E_7 h78, E_14 h78]
        refine gG_v0 (n_172 h78) (fun s8 s8p h92 => ?_)
        try simp only [E_R h92, E_i h92, E_1 h92, E_7 h92, E_14 h92]
        exact gG_ret ⟨rfl, rfl, rfl, h92⟩
      · refine gG_ite ?_ ?_
        · unfold fb_174_119
          try simp only [E_R h78, E_i h78, E_1 h78, E_7 h78, E_14 h78]
          refine gG_v0 (n_172 h78) (fun s8 s8p h93 => ?_)
          try simp only [E_R h93, E_i h93, E_1 h93, E_7 h93, E_14 h93]
          exact gG_ret ⟨rfl, rfl, rfl, h93⟩
        · refine gG_ite ?_ ?_
          · unfold fb_174_119
            try simp only [E_R h78, E_i h78, E_1 h78, E_7 h78, E_14 h78]
            refine gG_v0 (n_172 h78) (fun s8 s8p h94 => ?_)
            try simp only [E_R h94, E_i h94, E_1 h94, E_7 h94, E_14 h94]
            exact gG_ret ⟨rfl, rfl, rfl, h94⟩
          · refine gG_ite ?_ ?_
            · unfold fb_174_119
              try simp only [E_R h78, E_i h78, E_1 h78, E_7 h78, E_14 h78]
              refine gG_v0 (n_172 h78) (fun s8 s8p h95 => ?_)
              try simp only [E_R h95, E_i h95, E_1 h95, E_7 h95, E_14 h95]
              exact gG_ret ⟨rfl, rfl, rfl, h95⟩
            · exact gG_ret ⟨rfl, rfl, rfl, h78⟩
  · exact gG_ret ⟨rfl, rfl, rfl, h⟩

theorem n_175  {a1 : Nat} {a2 : Int} {a3 : Int} {s s' : gS}  (h : Eq8 s s') : gG PE (f_175 217 a1 a2 a3 s) (f_175 217 a1 a2 a3 s') := by
  unfold f_175
  try simp only [E_R h, E_i h, E_1 h, E_7 h, E_14 h]
  refine gG_ite ?_ ?_
  · refine gG_v1 (n_171 h) (fun v2 s1 s1p h96 => ?_)
    try simp only [E_R h96, E_i h96, E_1 h96, E_7 h96, E_14 h96]
    refine gG_ite ?_ ?_
    · refine gG_v0 (n_172 h96) (fun s4 s4p h97 => ?_)
      try simp only [E_R h97, E_i h97, E_1 h97, E_7 h97, E_14 h97]
      unfold fb_175_24
      try simp only [E_R h97, E_i h97, E_1 h97, E_7 h97, E_14 h97]
      refine gG_v1 (n_174 h97) (fun v7 s6 s6p h98 => ?_)
      try simp only [E_R h98, E_i h98, E_1 h98, E_7 h98, E_14 h98]
      exact gG_ret ⟨rfl, rfl, rfl, h98⟩
    · unfold fb_175_24
      try simp only [E_R h96, E_i h96, E_1 h96, E_7 h96, E_14 h96]
      refine gG_v1 (n_174 h96) (fun v7 s6 s6p h99 => ?_)
      try simp only [E_R h99, E_i h99, E_1 h99, E_7 h99, E_14 h99]
      exact gG_ret ⟨rfl, rfl, rfl, h99⟩
  · unfold fb_175_24
    try simp only [E_R h, E_i h, E_1 h, E_7 h, E_14 h]
    refine gG_v1 (n_174 h) (fun v7 s6 s6p h100 => ?_)
    try simp only [E_R h100, E_i h100, E_1 h100, E_7 h100, E_14 h100]
    exact gG_ret ⟨rfl, rfl, rfl, h100⟩

theorem n_176  {a1 : Nat} {s s' : gS}  (h : Eq8 s s') : gG PE (f_176 217 a1 s) (f_176 217 a1 s') := by
  unfold f_176
  try simp only [E_R h, E_i h, E_1 h, E_7 h, E_14 h]
  refine gG_ite ?_ ?_
  · refine gG_v1 (n_171 h) (fun v2 s1 s1p h101 => ?_)
    try simp only [E_R h101, E_i h101, E_1 h101, E_7 h101, E_14 h101]
    refine gG_ite ?_ ?_
    · refine gG_v0 (n_172 h101) (fun s4 s4p h102 => ?_)
      try simp only [E_R h102, E_i h102, E_1 h102, E_7 h102, E_14 h102]
      unfold fb_176_24
      try simp only [E_R h102, E_i h102, E_1 h102, E_7 h102, E_14 h102]
      refine gG_ite ?_ ?_
      · refine gG_v1 (n_173 h102) (fun v7 s6 s6p h103 => ?_)
        try simp only [E_R h103, E_i h103, E_1 h103, E_7 h103, E_14 h103]
        refine gG_loop (fun y y' => y.1 = 217 ∧ y.1 = y'.1 ∧ y.2.1 = y'.2.1 ∧ y.2.2.1 = y'.2.2.1 ∧ y.2.2.2.1 = y'.2.2.2.1 ∧ Eq8 y.2.2.2.2 y'.2.2.2.2) (fun y y' hy => ?_) ⟨rfl, rfl, rfl, rfl, rfl, h103⟩
        obtain ⟨x0, x2, x3, x4, u108⟩ := y
        obtain ⟨z104, z105, z106, z107, u108p⟩ := y'
        obtain ⟨e114, e109, e110, e111, e112, h113⟩ := hy
        dsimp only at e114 e109 e110 e111 e112 h113
        subst e109 e110 e111 e112 e114
        show gG _ (sb_176_44 217 x2 x3 x4 u108) (sb_176_44 217 x2 x3 x4 u108p)
        unfold sb_176_44
        try simp only [E_R h113, E_i h113, E_1 h113, E_7 h113, E_14 h113]
        refine gG_ite ?_ ?_
        · refine gG_v1 (n_168 h113) (fun v9 s8 s8p h115 => ?_)
          try simp only [E_R h115, E_i h115, E_1 h115, E_7 h115, E_14 h115]
          refine gG_v1 (n_150 h115) (fun v11 s10 s10p h116 => ?_)
          try simp only [E_R h116, E_i h116, E_1 h116, E_7 h116, E_14 h116]
          refine gG_ite ?_ ?_
          · refine gG_map ?_
            unfold fb_176_145
            try simp only [E_R h116, E_i h116, E_1 h116, E_7 h116, E_14 h116]
            refine gG_ite ?_ ?_
            · unfold fb_176_154
              try simp only [E_R h116, E_i h116, E_1 h116, E_7 h116, E_14 h116]
              refine gG_v0 (n_172 h116) (fun s13 s13p h117 => ?_)
              try simp only [E_R h117, E_i h117, E_1 h117, E_7 h117, E_14 h117]
              exact gG_ret ⟨rfl, rfl, rfl, h117⟩
            · refine gG_ite ?_ ?_
              · unfold fb_176_154
                try simp only [E_R h116, E_i h116, E_1 h116, E_7 h116, E_14 h116]
                refine gG_v0 (n_172 h116) (fun s13 s13p h118 => ?_)
                try simp only [E_R h118, E_i h118, E_1 h118, E_7 h118, E_14 h118]
                exact gG_ret ⟨rfl, rfl, rfl, h118⟩
              · exact gG_ret ⟨rfl, rfl, rfl, h116⟩
          · refine gG_v1 (n_168 h116) (fun v16 s15 s15p h119 => ?_)
            try simp only [E_R h119, E_i h119, E_1 h119, E_7 h119, E_14 h119]
            refine gG_ite ?_ ?_
            · unfold fb_176_111
              try simp only [E_R h119, E_i h119, E_1 h119, E_7 h119, E_14 h119]
              unfold fb_176_112
              try simp only [E_R h119, E_i h119, E_1 h119, E_7 h119, E_14 h119]
              refine gG_ite ?_ ?_
              · unfold fb_176_130
                dsimp only
                try simp only [E_R h119, E_i h119, E_1 h119, E_7 h119, E_14 h119]
                have hs120 : Eq8 (gw s15 217 11 (g32 ((gI s15 217 11) + 1))) (gw s15p 217 11 (g32 ((gI s15 217 11) + 1))) := (E_w h119)
                try simp only [E_R hs120, E_i hs120, E_1 hs120, E_7 hs120, E_14 hs120]
                exact gG_ret ⟨rfl, rfl, rfl, rfl, rfl, hs120⟩
              · unfold fb_176_130
                dsimp only
                try simp only [E_R h119, E_i h119, E_1 h119, E_7 h119, E_14 h119]
                have hs121 : Eq8 (gw s15 217 11 (g32 ((gI s15 217 11) + 1))) (gw s15p 217 11 (g32 ((gI s15 217 11) + 1))) := (E_w h119)
                try simp only [E_R hs121, E_i hs121, E_1 hs121, E_7 hs121, E_14 hs121]
                exact gG_ret ⟨rfl, rfl, rfl, rfl, rfl, hs121⟩
            · refine gG_ite ?_ ?_
              · refine gG_v1 (n_153 h119) (fun v19 s18 s18p h122 => ?_)
                try simp only [E_R h122, E_i h122, E_1 h122, E_7 h122, E_14 h122]
                refine gG_ite ?_ ?_
                · unfold fb_176_112
                  try simp only [E_R h122, E_i h122, E_1 h122, E_7 h122, E_14 h122]
                  refine gG_ite ?_ ?_
                  · unfold fb_176_130
                    dsimp only
                    try simp only [E_R h122, E_i h122, E_1 h122, E_7 h122, E_14 h122]
                    have hs123 : Eq8 (gw s18 217 11 (g32 ((gI s18 217 11) + 1))) (gw s18p 217 11 (g32 ((gI s18 217 11) + 1))) := (E_w h122)
                    try simp only [E_R hs123, E_i hs123, E_1 hs123, E_7 hs123, E_14 hs123]
                    exact gG_ret ⟨rfl, rfl, rfl, rfl, rfl, hs123⟩
                  · unfold fb_176_130
                    dsimp only
                    try simp only [E_R h122, E_i h122, E_1 h122, E_7 h122, E_14 h122]
                    have hs124 : Eq8 (gw s18 217 11 (g32 ((gI s18 217 11) + 1))) (gw s18p 217 11 (g32 ((gI s18 217 11) + 1))) := (E_w h122)
                    try simp only [E_R hs124, E_i hs124, E_1 hs124, E_7 hs124, E_14 hs124]
                    exact gG_ret ⟨rfl, rfl, rfl, rfl, rfl, hs124⟩
                · unfold fb_176_111
                  try simp only [E_R h122, E_i h122, E_1 h122, E_7 h122, E_14 h122]
                  unfold fb_176_112
                  try simp only [E_R h122, E_i h122, E_1 h122, E_7 h122, E_14 h122]
                  refine gG_ite ?_ ?_
                  · unfold fb_176_130
                    dsimp only
                    try simp only [E_R h122, E_i h122, E_1 h122, E_7 h122, E_14 h122]
                    have hs125 : Eq8 (gw s18 217 11 (g32 ((gI s18 217 11) + 1))) (gw s18p 217 11 (g32 ((gI s18 217 11) + 1))) := (E_w h122)
                    try simp only [E_R hs125, E_i hs125, E_1 hs125, E_7 hs125, E_14 hs125]
                    exact gG_ret ⟨rfl, rfl, rfl, rfl, rfl, hs125⟩
                  · unfold fb_176_130
                    dsimp only
                    try simp only [E_R h122, E_i h122, E_1 h122, E_7 h122, E_14 h122]
                    have hs126 : Eq8 (gw s18 217 11 (g32 ((gI s18 217 11) + 1))) (gw s18p 217 11 (g32 ((gI s18 217 11) + 1))) := (E_w h122)
                    try simp only [E_R hs126, E_i hs126, E_1 hs126, E_7 hs126, E_14 hs126]
                    exact gG_ret ⟨rfl, rfl, rfl, rfl, rfl, hs126⟩
              · unfold fb_176_111
                try simp only [E_R h119, E_i h119, E_1 h119, E_7 h119, E_14 h119]
                unfold fb_176_112
                try simp only [E_R h119, E_i h119, E_1 h119, E_7 h119, E_14 h119]
                refine gG_ite ?_ ?_
                · unfold fb_176_130
                  dsimp only
                  try simp only [E_R h119, E_i h119, E_1 h119, E_7 h119, E_14 h119]
                  have hs127 : Eq8 (gw s15 217 11 (g32 ((gI s15 217 11) + 1))) (gw s15p 217 11 (g32 ((gI s15 217 11) + 1))) := (E_w h119)
                  try simp only [E_R hs127, E_i hs127, E_1 hs127, E_7 hs127, E_14 hs127]
                  exact gG_ret ⟨rfl, rfl, rfl, rfl, rfl, hs127⟩
                · unfold fb_176_130
                  dsimp only
                  try simp only [E_R h119, E_i h119, E_1 h119, E_7 h119, E_14 h119]
                  have hs128 : Eq8 (gw s15 217 11 (g32 ((gI s15 217 11) + 1))) (gw s15p 217 11 (g32 ((gI s15 217 11) + 1))) := (E_w h119)
                  try simp only [E_R hs128, E_i hs128, E_1 hs128, E_7 hs128, E_14 hs128]
                  exact gG_ret ⟨rfl, rfl, rfl, rfl, rfl, hs128⟩
        · refine gG_map ?_
          unfold fb_176_145
          try simp only [E_R h113, E_i h113, E_1 h113, E_7 h113, E_14 h113]
          refine gG_ite ?_ ?_
          · unfold fb_176_154
            try simp only [E_R h113, E_i h113, E_1 h113, E_7 h113, E_14 h113]
            refine gG_v0 (n_172 h113) (fun s13 s13p h129 => ?_)
            try simp only [E_R h129, E_i h129, E_1 h129, E_7 h129, E_14 h129]
            exact gG_ret ⟨rfl, rfl, rfl, h129⟩
          · refine gG_ite ?_ ?_
            · unfold fb_176_154
              try simp only [E_R h113, E_i h113, E_1 h113, E_7 h113, E_14 h113]
              refine gG_v0 (n_172 h113) (fun s13 s13p h130 => ?_)
              try simp only [E_R h130, E_i h130, E_1 h130, E_7 h130, E_14 h130]
              exact gG_ret ⟨rfl, rfl, rfl, h130⟩
            · exact gG_ret ⟨rfl, rfl, rfl, h113⟩
      · exact gG_ret ⟨rfl, rfl, rfl, h102⟩
    · unfold fb_176_24
      try simp only [E_R h101, E_i h101, E_1 h101, E_7 h101, E_14 h101]
      refine gG_ite ?_ ?_
      · refine gG_v1 (n_173 h101) (fun v7 s6 s6p h131 => ?_)
        try simp only [E_R h131, E_i h131, E_1 h131, E_7 h131, E_14 h131]
        refine gG_loop (fun y y' => y.1 = 217 ∧ y.1 = y'.1 ∧ y.2.1 = y'.2.1 ∧ y.2.2.1 = y'.2.2.1 ∧ y.2.2.2.1 = y'.2.2.2.1 ∧ Eq8 y.2.2.2.2 y'.2.2.2.2) (fun y y' hy => ?_) ⟨rfl, rfl, rfl, rfl, rfl, h131⟩
        obtain ⟨x0, x2, x3, x4, u136⟩ := y
        obtain ⟨z132, z133, z134, z135, u136p⟩ := y'
        obtain ⟨e142, e137, e138, e139, e140, h141⟩ := hy
        dsimp only at e142 e137 e138 e139 e140 h141
        subst e137 e138 e139 e140 e142
        show gG _ (sb_176_44 217 x2 x3 x4 u136) (sb_176_44 217 x2 x3 x4 u136p)
        unfold sb_176_44
        try simp only [E_R h141, E_i h141, E_1 h141, E_7 h141, E_14 h141]
        refine gG_ite ?_ ?_
        · refine gG_v1 (n_168 h141) (fun v9 s8 s8p h143 => ?_)
          try simp only [E_R h143, E_i h143, E_1 h143, E_7 h143, E_14 h143]
          refine gG_v1 (n_150 h143) (fun v11 s10 s10p h144 => ?_)
          try simp only [E_R h144, E_i h144, E_1 h144, E_7 h144, E_14 h144]
          refine gG_ite ?_ ?_
          · refine gG_map ?_
            unfold fb_176_145
            try simp only [E_R h144, E_i h144, E_1 h144, E_7 h144, E_14 h144]
            refine gG_ite ?_ ?_
            · unfold fb_176_154
              try simp only [E_R h144, E_i h144, E_1 h144, E_7 h144, E_14 h144]
              refine gG_v0 (n_172 h144) (fun s13 s13p h145 => ?_)
              try simp only [E_R h145, E_i h145, E_1 h145, E_7 h145, E_14 h145]
              exact gG_ret ⟨rfl, rfl, rfl, h145⟩
            · refine gG_ite ?_ ?_
              · unfold fb_176_154
                try simp only [E_R h144, E_i h144, E_1 h144, E_7 h144, E_14 h144]
                refine gG_v0 (n_172 h144) (fun s13 s13p h146 => ?_)
                try simp only [E_R h146, E_i h146, E_1 h146, E_7 h146, E_14 h146]
                exact gG_ret ⟨rfl, rfl, rfl, h146⟩
              · exact gG_ret ⟨rfl, rfl, rfl, h144⟩
          · refine gG_v1 (n_168 h144) (fun v16 s15 s15p h147 => ?_)
            try simp only [E_R h147, E_i h147, E_1 h147, E_7 h147, E_14 h147]
            refine gG_ite ?_ ?_
            · unfold fb_176_111
              try simp only [E_R h147, E_i h147, E_1 h147, E_7 h147, E_14 h147]
              unfold fb_176_112
              try simp only [E_R h147, E_i h147, E_1 h147, E_7 h147, E_14 h147]
              refine gG_ite ?_ ?_
              · unfold fb_176_130
                dsimp only
                try simp only [E_R h147, E_i h147, E_1 h147, E_7 h147, E_14 h147]
                have hs148 : Eq8 (gw s15 217 11 (g32 ((gI s15 217 11) + 1))) (gw s15p 217 11 (g32 ((gI s15 217 11) + 1))) := (E_w h147)
                try simp only [E_R hs148, E_i hs148, E_1 hs148, E_7 hs148, E_14 hs148]
                exact gG_ret ⟨rfl, rfl, rfl, rfl, rfl, hs148⟩
              · unfold fb_176_130
                dsimp only
                try simp only [E_R h147, E_i h147, E_1 h147, E_7 h147, E_14 h147]
                have hs149 : Eq8 (gw s15 217 11 (g32 ((gI s15 217 11) + 1))) (gw s15p 217 11 (g32 ((gI s15 217 11) + 1))) := (E_w h147)
                try simp only [E_R hs149, E_i hs149, E_1 hs149, E_7 hs149, E_14 hs149]
                exact gG_ret ⟨rfl, rfl, rfl, rfl, rfl, hs149⟩
            · refine gG_ite ?_ ?_
              · refine gG_v1 (n_153 h147) (fun v19 s18 s18p h150 => ?_)
                try simp only [E_R h150, E_i h150, E_1 h150, E_7 h150, E_14 h150]
                refine gG_ite ?_ ?_
                · unfold fb_176_112
                  try simp only [E_R h150, E_i h150, E_1 h150, E_7 h150, E_14 h150]
                  refine gG_ite ?_ ?_
                  · unfold fb_176_130
                    dsimp only
                    try simp only [E_R h150, E_i h150, E_1 h150, E_7 h150, E_14 h150]
                    have hs151 : Eq8 (gw s18 217 11 (g32 ((gI s18 217 11) + 1))) (gw s18p 217 11 (g32 ((gI s18 217 11) + 1))) := (E_w h150)
                    try simp only [E_R hs151, E_i hs151, E_1 hs151, E_7 hs151, E_14 hs151]
                    exact gG_ret ⟨rfl, rfl, rfl, rfl, rfl, hs151⟩
                  · unfold fb_176_130
                    dsimp only
                    try simp only [E_R h150, E_i h150, E_1 h150, E_7 h150, E_14 h150]
                    have hs152 : Eq8 (gw s18 217 11 (g32 ((gI s18 217 11) + 1))) (gw s18p 217 11 (g32 ((gI s18 217 11) + 1))) := (E_w h150)
                    try simp only [E_R hs152, E_i hs152, E_1 hs152, E_7 hs152, E_14 hs152]
                    exact gG_ret ⟨rfl, rfl, rfl, rfl, rfl, hs152⟩
                · unfold fb_176_111
                  try simp only [E_R h150, E_i h150, E_1 h150, E_7 h150, E_14 h150]
                  unfold fb_176_112
                  try simp only [E_R h150, E_i h150, E_1 h150, E_7 h150, E_14 h150]
                  refine gG_ite ?_ ?_
                  · unfold fb_176_130
                    dsimp only
                    try simp only [E_R h150, E_i h150, E_1 h150, E_7 h150, E_14 h150]
                    have hs153 : Eq8 (gw s18 217 11 (g32 ((gI s18 217 11) + 1))) (gw s18p 217 11 (g32 ((gI s18 217 11) + 1))) := (E_w h150)
                    try simp only [E_R hs153, E_i hs153, E_1 hs153, E_7 hs153, E_14 hs153]
                    exact gG_ret ⟨rfl, rfl, rfl, rfl, rfl, hs153⟩
                  · unfold fb_176_130
                    dsimp only
                    try simp only [E_R h150, E_i h150, E_1 h150, E_7 h150, E_14 h150]
                    have hs154 : Eq8 (gw s18 217 11 (g32 ((gI s18 217 11) + 1))) (gw s18p 217 11 (g32 ((gI s18 217 11) + 1))) := (E_w h150)
                    try simp only [E_R hs154, E_i hs154, E_1 hs154, E_7 hs154, E_14 hs154]
                    exact gG_ret ⟨rfl, rfl, rfl, rfl, rfl, hs154⟩
              · unfold fb_176_111
                try simp only [E_R h147, E_i h147, E_1 h147, E_7 h147, E_14 h147]
                unfold fb_176_112
                try simp only [E_R h147, E_i h147, E_1 h147, E_7 h147, E_14 h147]
                refine gG_ite ?_ ?_
                · unfold fb_176_130
                  dsimp only
                  try simp only [E_R h147, E_i h147, E_1 h147, E_7 h147, E_14 h147]
                  have hs155 : Eq8 (gw s15 217 11 (g32 ((gI s15 217 11) + 1))) (gw s15p 217 11 (g32 ((gI s15 217 11) + 1))) := (E_w h147)
                  try simp only [E_R hs155, E_i hs155, E_1 hs155, E_7 hs155, E_14 hs155]
                  exact gG_ret ⟨rfl, rfl, rfl, rfl, rfl, hs155⟩
                · unfold fb_176_130
                  dsimp only
                  try simp only [E_R h147, E_i h147, E_1 h147, E_7 h147, E_14 h147]
                  have hs156 : Eq8 (gw s15 217 11 (g32 ((gI s15 217 11) + 1))) (gw s15p 217 11 (g32 ((gI s15 217 11) + 1))) := (E_w h147)
                  try simp only [E_R hs156, E_i hs156, E_1 hs156, E_7 hs156, E_14 hs156]
                  exact gG_ret ⟨rfl, rfl, rfl, rfl, rfl, hs156⟩
        · refine gG_map ?_
          unfold fb_176_145
          try simp only [E_R h141, E_i h141, E_1 h141, E_7 h141, E_14 h141]
          refine gG_ite ?_ ?_
          · unfold fb_176_154
            try simp only [E_R h141, E_i h141, E_1 h141, E_7 h141, E_14 h141]
            refine gG_v0 (n_172 h141) (fun s13 s13p h157 => ?_)
            try simp only [E_R h157, E_i h157, E_1 h157, E_7 h157, E_14 h157]
            exact gG_ret ⟨rfl, rfl, rfl, h157⟩
          · refine gG_ite ?_ ?_
            · unfold fb_176_154
              try simp only [E_R h141, E_i h141, E_1 h141, E_7 h141, E_14 h141]
              refine gG_v0 (n_172 h141) (fun s13 s13p h158 => ?_)
              try simp only [E_R h158, E_i h158, E_1 h158, E_7 h158, E_14 h158]
              exact gG_ret ⟨rfl, rfl, rfl, h158⟩
            · exact gG_ret ⟨rfl, rfl, rfl, h141⟩
      · exact gG_ret ⟨rfl, rfl, rfl, h101⟩
  · unfold fb_176_24
    try simp only [E_R h, E_i h, E_1 h, E_7 h, E_14 h]
    refine gG_ite ?_ ?_
    · refine gG_v1 (n_173 h) (fun v7 s6 s6p h159 => ?_)
      try simp only [E_R h159, E_i h159, E_1 h159, E_7 h159, E_14 h159]
      refine gG_loop (fun y y' => y.1 = 217 ∧ y.1 = y'.1 ∧ y.2.1 = y'.2.1 ∧ y.2.2.1 = y'.2.2.1 ∧ y.2.2.2.1 = y'.2.2.2.1 ∧ Eq8 y.2.2.2.2 y'.2.2.2.2) (fun y y' hy => ?_) ⟨rfl, rfl, rfl, rfl, rfl, h159⟩
      obtain ⟨x0, x2, x3, x4, u164⟩ := y
      obtain ⟨z160, z161, z162, z163, u164p⟩ := y'
      obtain ⟨e170, e165, e166, e167, e168, h169⟩ := hy
      dsimp only at e170 e165 e166 e167 e168 h169
      subst e165 e166 e167 e168 e170
      show gG _ (sb_176_44 217 x2 x3 x4 u164) (sb_176_44 217 x2 x3 x4 u164p)
      unfold sb_176_44
      try simp only [E_R h169, E_i h169, E_1 h169, E_7 h169, E_14 h169]
      refine gG_ite ?_ ?_
      · refine gG_v1 (n_168 h169) (fun v9 s8 s8p h171 => ?_)
        try simp only [E_R h171, E_i h171, E_1 h171, E_7 h171, E_14 h171]
        refine gG_v1 (n_150 h171) (fun v11 s10 s10p h172 => ?_)
        try simp only [E_R h172, E_i h172, E_1 h172, E_7 h172, E_14 h172]
        refine gG_ite ?_ ?_
        · refine gG_map ?_
          unfold fb_176_145
          try simp only [E_R h172, E_i h172, E_1 h172, E_7 h172, E_14 h172]
          refine gG_ite ?_ ?_
          · unfold fb_176_154
            try simp only [E_R h172, E_i h172, E_1 h172, E_7 h172, E_14 h172]
            refine gG_v0 (n_172 h172) (fun s13 s13p h173 => ?_)
            try simp only [E_R h173, E_i h173, E_1 h173, E_7 h173, E_14 h173]
            exact gG_ret ⟨rfl, rfl, rfl, h173⟩
          · refine gG_ite ?_ ?_
            · unfold fb_176_154
              try simp only [E_R h172, E_i h172, E_1 h172, E_7 h172, E_14 h172]
              refine gG_v0 (n_172 h172) (fun s13 s13p h174 => ?_)
              try simp only [E_R h174, E_i h174, E_1 h174, E_7 h174, E_14 h174]
              exact gG_ret ⟨rfl, rfl, rfl, h174⟩
            · exact gG_ret ⟨rfl, rfl, rfl, h172⟩
        · refine gG_v1 (n_168 h172) (fun v16 s15 s15p h175 => ?_)
          try simp only [E_R h175, E_i h175, E_1 h175, E_7 h175, E_14 h175]
          refine gG_ite ?_ ?_
          · unfold fb_176_111
            try simp only [E_R h175, E_i h175, E_1 h175, E_7 h175, E_14 h175]
            unfold fb_176_112
            try simp only [E_R h175, E_i h175, E_1 h175, E_7 h175, E_14 h175]
            refine gG_ite ?_ ?_
            · unfold fb_176_130
              dsimp only
              try simp only [E_R h175, E_i h175, E_1 h175, E_7 h175, E_14 h175]
              have hs176 : Eq8 (gw s15 217 11 (g32 ((gI s15 217 11) + 1))) (gw s15p 217 11 (g32 ((gI s15 217 11) + 1))) := (E_w h175)
              try simp only [E_R hs176, E_i hs176, E_1 hs176, E_7 hs176, E_14 hs176]
              exact gG_ret ⟨rfl, rfl, rfl, rfl, rfl, hs176⟩
            · unfold fb_176_130
              dsimp only
              try simp only [E_R h175, E_i h175, E_1 h175, E_7 h175, E_14 h175]
              have hs177 : Eq8 (gw s15 217 11 (g32 ((gI s15 217 11) + 1))) (gw s15p 217 11 (g32 ((gI s15 217 11) + 1))) := (E_w h175)
              try simp only [E_R hs177, E_i hs177, E_1 hs177, E_7 hs177, E_14 hs177]
              exact gG_ret ⟨rfl, rfl, rfl, rfl, rfl, hs177⟩
          · refine gG_ite ?_ ?_
            · refine gG_v1 (n_153 h175) (fun v19 s18 s18p h178 => ?_)
              try simp only [E_R h178, E_i h178, E_1 h178, E_7 h178, E_14 h178]
              refine gG_ite ?_ ?_
              · unfold fb_176_112
                try simp only [E_R h178, E_i h178, E_1 h178, E_7 h178, E_14 h178]
                refine gG_ite ?_ ?_
                · unfold fb_176_130
                  dsimp only
                  try simp only [E_R h178, E_i h178, E_1 h178, E_7 h178, E_14 h178]
                  have hs179 : Eq8 (gw s18 217 11 (g32 ((gI s18 217 11) + 1))) (gw s18p 217 11 (g32 ((gI s18 217 11) + 1))) := (E_w h178)
                  try simp only [E_R hs179, E_i hs179, E_1 hs179, E_7 hs179, E_14 hs179]
                  exact gG_ret ⟨rfl, rfl, rfl, rfl, rfl, hs179⟩
                · unfold fb_176_130
                  dsimp only
                  try simp only [E_R h178, E_i h178, E_1 h178, E_7 h178, E_14 h178]
                  have hs180 : Eq8 (gw s18 217 11 (g32 ((gI s18 217 11) + 1))) (gw s18p 217 11 (g32 ((gI s18 217 11) + 1))) := (E_w h178)
                  try simp only [E_R hs180, E_i hs180, E_1 hs180, E_7 hs180, E_14 hs180]
                  exact gG_ret ⟨rfl, rfl, rfl, rfl, rfl, hs180⟩
              · unfold fb_176_111
                try simp only [E_R h178, E_i h178, E_1 h178, E_7 h178, E_14 h178]
                unfold fb_176_112
                try simp only [E_R h178, E_i h178, E_1 h178, E_7 h178, E_14 h178]
                refine gG_ite ?_ ?_
                · unfold fb_176_130
                  dsimp only
                  try simp only [E_R h178, E_i h178, E_1 h178, E_7 h178, E_14 h178]
                  have hs181 : Eq8 (gw s18 217 11 (g32 ((gI s18 217 11) + 1))) (gw s18p 217 11 (g32 ((gI s18 217 11) + 1))) := (E_w h178)
                  try simp only [E_R hs181, E_i hs181, E_1 hs181, E_7 hs181, E_14 hs181]
                  exact gG_ret ⟨rfl, rfl, rfl, rfl, rfl, hs181⟩
                · unfold fb_176_130
                  dsimp only
                  try simp only [E_R h178, E_i h178, E_1 h178, E_7 h178, E_14 h178]
                  have hs182 : Eq8 (gw s18 217 11 (g32 ((gI s18 217 11) + 1))) (gw s18p 217 11 (g32 ((gI s18 217 11) + 1))) := (E_w h178)
                  try simp only [E_R hs182, E_i hs182, E_1 hs182, E_7 hs182, E_14 hs182]
                  exact gG_ret ⟨rfl, rfl, rfl, rfl, rfl, hs182⟩
            · unfold fb_176_111
              try simp only [E_R h175, E_i h175, E_1 h175, E_7 h175, E_14 h175]
              unfold fb_176_112
              try simp only [E_R h175, E_i h175, E_1 h175, E_7 h175, E_14 h175]
              refine gG_ite ?_ ?_
              · unfold fb_176_130
                dsimp only
                try simp only [E_R h175, E_i h175, E_1 h175, E_7 h175, E_14 h175]
                have hs183 : Eq8 (gw s15 217 11 (g32 ((gI s15 217 11) + 1))) (gw s15p 217 11 (g32 ((gI s15 217 11) + 1))) := (E_w h175)
                try simp only [E_R hs183, E_i hs183, E_1 hs183, E_7 hs183, E_14 hs183]
                exact gG_ret ⟨rfl, rfl, rfl, rfl, rfl, hs183⟩
              · unfold fb_176_130
                dsimp only
                try simp only [E_R h175, E_i h175, E_1 h175, E_7 h175, E_14 h175]
                have hs184 : Eq8 (gw s15 217 11 (g32 ((gI s15 217 11) + 1))) (gw s15p 217 11 (g32 ((gI s15 217 11) + 1))) := (E_w h175)
                try simp only [E_R hs184, E_i hs184, E_1 hs184, E_7 hs184, E_14 hs184]
                exact gG_ret ⟨rfl, rfl, rfl, rfl, rfl, hs184⟩
      · refine gG_map ?_
        unfold fb_176_145
        try simp only [E_R h169, E_i h169, E_1 h169, E_7 h169, E_14 h169]
        refine gG_ite ?_ ?_
        · unfold fb_176_154
          try simp only [E_R h169, E_i h169, E_1 h169, E_7 h169, E_14 h169]
          refine gG_v0 (n_172 h169) (fun s13 s13p h185 => ?_)
          try simp only [E_R h185, E_i h185, E_1 h185, E_7 h185, E_14 h185]
          exact gG_ret ⟨rfl, rfl, rfl, h185⟩
        · refine gG_ite ?_ ?_
          · unfold fb_176_154
            try simp only [E_R h169, E_i h169, E_1 h169, E_7 h169, E_14 h169]
            refine gG_v0 (n_172 h169) (fun s13 s13p h186 => ?_)
            try simp only [E_R h186, E_i h186, E_1 h186, E_7 h186, E_14 h186]
            exact gG_ret ⟨rfl, rfl, rfl, h186⟩
          · exact gG_ret ⟨rfl, rfl, rfl, h169⟩
    · exact gG_ret ⟨rfl, rfl, rfl, h⟩

theorem n_177  {a1 : Int} {s s' : gS}  (h : Eq8 s s') : gG PE (f_177 217 a1 s) (f_177 217 a1 s') := by
  unfold f_177
  try simp only [E_R h, E_i h, E_1 h, E_7 h, E_14 h]
  refine gG_ite ?_ ?_
  · refine gG_v0 (n_172 h) (fun s1 s1p h187 => ?_)
    try simp only [E_R h187, E_i h187, E_1 h187, E_7 h187, E_14 h187]
    unfold fb_177_16
    dsimp only
    try simp only [E_R h187, E_i h187, E_1 h187, E_7 h187, E_14 h187]
    refine gG_v1 (n_175 h187) (fun v4 s3 s3p h188 => ?_)
    try simp only [E_R h188, E_i h188, E_1 h188, E_7 h188, E_14 h188]
    refine gG_v1 (n_175 h188) (fun v6 s5 s5p h189 => ?_)
    try simp only [E_R h189, E_i h189, E_1 h189, E_7 h189, E_14 h189]
    refine gG_v1 (n_175 h189) (fun v8 s7 s7p h190 => ?_)
    try simp only [E_R h190, E_i h190, E_1 h190, E_7 h190, E_14 h190]
    have hs191 : Eq8 (gw s7 (gR s7 217 1) ((g32 ((g32 (16 + (g32 (3 * (gI s7 (gR s7 217 1) 3))))) + 0)) : Int).toNat v4) (gw s7p (gR s7 217 1) ((g32 ((g32 (16 + (g32 (3 * (gI s7 (gR s7 217 1) 3))))) + 0)) : Int).toNat v4) := (E_w h190)
    try simp only [E_R hs191, E_i hs191, E_1 hs191, E_7 hs191, E_14 hs191]
    have hs192 : Eq8 (gw (gw s7 (gR s7 217 1) ((g32 ((g32 (16 + (g32 (3 * (gI s7 (gR s7 217 1) 3))))) + 0)) : Int).toNat v4) (gR (gw s7 (gR s7 217 1) ((g32 ((g32 (16 + (g32 (3 * (gI s7 (gR s7 217 1) 3))))) + 0)) : Int).toNat v4) 217 1) ((g32 ((g32 (16 + (g32 (3 * (gI s7 (gR s7 217 1) 3))))) + 1)) : Int).toNat v6) (gw (gw s7p (gR s7 217 1) ((g32 ((g32 (16 + (g32 (3 * (gI s7 (gR s7 217 1) 3))))) + 0)) : Int).toNat v4) (gR (gw s7 (gR s7 217 1) ((g32 ((g32 (16 + (g32 (3 * (gI s7 (gR s7 217 1) 3))))) + 0)) : Int).toNat v4) 217 1) ((g32 ((g32 (16 + (g32 (3 * (gI s7 (gR s7 217 1) 3))))) + 1)) : Int).toNat v6) := (E_w hs191)
    try simp only [E_R hs192, E_i hs192, E_1 hs192, E_7 hs192, E_14 hs192]
    have hs193 : Eq8 (gw (gw (gw s7 (gR s7 217 1) ((g32 ((g32 (16 + (g32 (3 * (gI s7 (gR s7 217 1) 3))))) + 0)) : Int).toNat v4) (gR (gw s7 (gR s7 217 1) ((g32 ((g32 (16 + (g32 (3 * (gI s7 (gR s7 217 1) 3))))) + 0)) : Int).toNat v4) 217 1) ((g32 ((g32 (16 + (g32 (3 * (gI s7 (gR s7 217 1) 3))))) + 1)) : Int).toNat v6) (gR (gw (gw s7 (gR s7 217 1) ((g32 ((g32 (16 + (g32 (3 * (gI s7 (gR s7 217 1) 3))))) + 0)) : Int).toNat v4) (gR (gw s7 (gR s7 217 1) ((g32 ((g32 (16 + (g32 (3 * (gI s7 (gR s7 217 1) 3))))) + 0)) : Int).toNat v4) 217 1) ((g32 ((g32 (16 + (g32 (3 * (gI s7 (gR s7 217 1) 3))))) + 1)) : Int).toNat v6) 217 1) ((g32 ((g32 (16 + (g32 (3 * (gI s7 (gR s7 217 1) 3))))) + 2)) : Int).toNat v8) (gw (gw (gw s7p (gR s7 217 1) ((g32 ((g32 (16 + (g32 (3 * (gI s7 (gR s7 217 1) 3))))) + 0)) : Int).toNat v4) (gR (gw s7 (gR s7 217 1) ((g32 ((g32 (16 + (g32 (3 * (gI s7 (gR s7 217 1) 3))))) + 0)) : Int).toNat v4) 217 1) ((g32 ((g32 (16 + (g32 (3 * (gI s7 (gR s7 217 1) 3))))) + 1)) : Int).toNat v6) (gR (gw (gw s7 (gR s7 217 1) ((g32 ((g32 (16 + (g32 (3 * (gI s7 (gR s7 217 1) 3))))) + 0)) : Int).toNat v4) (gR (gw s7 (gR s7 217 1) ((g32 ((g32 (16 + (g32 (3 * (gI s7 (gR s7 217 1) 3))))) + 0)) : Int).toNat v4) 217 1) ((g32 ((g32 (16 + (g32 (3 * (gI s7 (gR s7 217 1) 3))))) + 1)) : Int).toNat v6) 217 1) ((g32 ((g32 (16 + (g32 (3 * (gI s7 (gR s7 217 1) 3))))) + 2)) : Int).toNat v8) := (E_w hs192)
    try simp only [E_R hs193, E_i hs193, E_1 hs193, E_7 hs193, E_14 hs193]
    have hs194 : Eq8 (gw (gw (gw (gw s7 (gR s7 217 1) ((g32 ((g32 (16 + (g32 (3 * (gI s7 (gR s7 217 1) 3))))) + 0)) : Int).toNat v4) (gR (gw s7 (gR s7 217 1) ((g32 ((g32 (16 + (g32 (3 * (gI s7 (gR s7 217 1) 3))))) + 0)) : Int).toNat v4) 217 1) ((g32 ((g32 (16 + (g32 (3 * (gI s7 (gR s7 217 1) 3))))) + 1)) : Int).toNat v6) (gR (gw (gw s7 (gR s7 217 1) ((g32 ((g32 (16 + (g32 (3 * (gI s7 (gR s7 217 1) 3))))) + 0)) : Int).toNat v4) (gR (gw s7 (gR s7 217 1) ((g32 ((g32 (16 + (g32 (3 * (gI s7 (gR s7 217 1) 3))))) + 0)) : Int).toNat v4) 217 1) ((g32 ((g32 (16 + (g32 (3 * (gI s7 (gR s7 217 1) 3))))) + 1)) : Int).toNat v6) 217 1) ((g32 ((g32 (16 + (g32 (3 * (gI s7 (gR s7 217 1) 3))))) + 2)) : Int).toNat v8) (gR (gw (gw (gw s7 (gR s7 217 1) ((g32 ((g32 (16 + (g32 (3 * (gI s7 (gR s7 217 1) 3))))) + 0)) : Int).toNat v4) (gR (gw s7 (gR s7 217 1) ((g32 ((g32 (16 + (g32 (3 * (gI s7 (gR s7 217 1) 3))))) + 0)) : Int).toNat v4) 217 1) ((g32 ((g32 (16 + (g32 (3 * (gI s7 (gR s7 217 1) 3))))) + 1)) : Int).toNat v6) (gR (gw (gw s7 (gR s7 217 1) ((g32 ((g32 (16 + (g32 (3 * (gI s7 (gR s7 217 1) 3))))) + 0)) : Int).toNat v4) (gR (gw s7 (gR s7 217 1) ((g32 ((g32 (16 + (g32 (3 * (gI s7 (gR s7 217 1) 3))))) + 0)) : Int).toNat v4) 217 1) ((g32 ((g32 (16 + (g32 (3 * (gI s7 (gR s7 217 1) 3))))) + 1)) : Int).toNat v6) 217 1) ((g32 ((g32 (16 + (g32 (3 * (gI s7 (gR s7 217 1) 3))))) + 2)) : Int).toNat v8) 217 1) 3 (g32 ((gI (gw (gw (gw s7 (gR s7 217 1) ((g32 ((g32 (16 + (g32 (3 * (gI s7 (gR s7 217 1) 3))))) + 0)) : Int).toNat v4) (gR (gw s7 (gR s7 217 1) ((g32 ((g32 (16 + (g32 (3 * (gI s7 (gR s7 217 1) 3))))) + 0)) : Int).toNat v4) 217 1) ((g32 ((g32 (16 + (g32 (3 * (gI s7 (gR s7 217 1) 3))))) + 1)) : Int).toNat v6) (gR (gw (gw s7 (gR s7 217 1) ((g32 ((g32 (16 + (g32 (3 * (gI s7 (gR s7 217 1) 3))))) + 0)) : Int).toNat v4) (gR (gw s7 (gR s7 217 1) ((g32 ((g32 (16 + (g32 (3 * (gI s7 (gR s7 217 1) 3))))) + 0)) : Int).toNat v4) 217 1) ((g32 ((g32 (16 + (g32 (3 * (gI s7 (gR s7 217 1) 3))))) + 1)) : Int).toNat v6) 217 1) ((g32 ((g32 (16 + (g32 (3 * (gI s7 (gR s7 217 1) 3))))) + 2)) : Int).toNat v8) (gR (gw (gw (gw s7 (gR s7 217 1) ((g32 ((g32 (16 + (g32 (3 * (gI s7 (gR s7 217 1) 3))))) + 0)) : Int).toNat v4) (gR (gw s7 (gR s7 217 1) ((g32 ((g32 (16 + (g32 (3 * (gI s7 (gR s7 217 1) 3))))) + 0)) : Int).toNat v4) 217 1) ((g32 ((g32 (16 + (g32 (3 * (gI s7 (gR s7 217 1) 3))))) + 1)) : Int).toNat v6) (gR (gw (gw s7 (gR s7 217 1) ((g32 ((g32 (16 + (g32 (3 * (gI s7 (gR s7 217 1) 3))))) + 0)) : Int).toNat v4) (gR (gw s7 (gR s7 217 1) ((g32 ((g32 (16 + (g32 (3 * (gI s7 (gR s7 217 1) 3))))) + 0)) : Int).toNat v4) 217 1) ((g32 ((g32 (16 + (g32 (3 * (gI s7 (gR s7 217 1) 3))))) + 1)) : Int).toNat v6) 217 1) ((g32 ((g32 (16 + (g32 (3 * (gI s7 (gR s7 217 1) 3))))) + 2)) : Int).toNat v8) 217 1) 3) + 1))) (gw (gw (gw (gw s7p (gR s7 217 1) ((g32 ((g32 (16 + (g32 (3 * (gI s7 (gR s7 217 1) 3))))) + 0)) : Int).toNat v4) (gR (gw s7 (gR s7 217 1) ((g32 ((g32 (16 + (g32 (3 * (gI s7 (gR s7 217 1) 3))))) + 0)) : Int).toNat v4) 217 1) ((g32 ((g32 (16 + (g32 (3 * (gI s7 (gR s7 217 1) 3))))) + 1)) : Int).toNat v6) (gR (gw (gw s7 (gR s7 217 1) ((g32 ((g32 (16 + (g32 (3 * (gI s7 (gR s7 217 1) 3))))) + 0)) : Int).toNat v4) (gR (gw s7 (gR s7 217 1) ((g32 ((g32 (16 + (g32 (3 * (gI s7 (gR s7 217 1) 3))))) + 0)) : Int).toNat v4) 217 1) ((g32 ((g32 (16 + (g32 (3 * (gI s7 (gR s7 217 1) 3))))) + 1)) : Int).toNat v6) 217 1) ((g32 ((g32 (16 + (g32 (3 * (gI s7 (gR s7 217 1) 3))))) + 2)) : Int).toNat v8) (gR (gw (gw (gw s7 (gR s7 217 1) ((g32 ((g32 (16 + (g32 (3 * (gI s7 (gR s7 217 1) 3))))) + 0)) : Int).toNat v4) (gR (gw s7 (gR s7 217 1) ((g32 ((g32 (16 + (g32 (3 * (gI s7 (gR s7 217 1) 3))))) + 0)) : Int).toNat v4) 217 1) ((g32 ((g32 (16 + (g32 (3 * (gI s7 (gR s7 217 1) 3))))) + 1)) : Int).toNat v6) (gR (gw (gw s7 (gR s7 217 1) ((g32 ((g32 (16 + (g32 (3 * (gI s7 (gR s7 217 1) 3))))) + 0)) : Int).toNat v4) (gR (gw s7 (gR s7 217 1) ((g32 ((g32 (16 + (g32 (3 * (gI s7 (gR s7 217 1) 3))))) + 0)) : Int).toNat v4) 217 1) ((g32 ((g32 (16 + (g32 (3 * (gI s7 (gR s7 217 1) 3))))) + 1)) : Int).toNat v6) 217 1) ((g32 ((g32 (16 + (g32 (3 * (gI s7 (gR s7 217 1) 3))))) + 2)) : Int).toNat v8) 217 1) 3 (g32 ((gI (gw (gw (gw s7 (gR s7 217 1) ((g32 ((g32 (16 + (g32 (3 * (gI s7 (gR s7 217 1) 3))))) + 0)) : Int).toNat v4) (gR (gw s7 (gR s7 217 1) ((g32 ((g32 (16 + (g32 (3 * (gI s7 (gR s7 217 1) 3))))) + 0)) : Int).toNat v4) 217 1) ((g32 ((g32 (16 + (g32 (3 * (gI s7 (gR s7 217 1) 3))))) + 1)) : Int).toNat v6) (gR (gw (gw s7 (gR s7 217 1) ((g32 ((g32 (16 + (g32 (3 * (gI s7 (gR s7 217 1) 3))))) + 0)) : Int).toNat v4) (gR (gw s7 (gR s7 217 1) ((g32 ((g32 (16 + (g32 (3 * (gI s7 (gR s7 217 1) 3))))) + 0)) : Int).toNat v4) 217 1) ((g32 ((g32 (16 + (g32 (3 * (gI s7 (gR s7 217 1) 3))))) + 1)) : Int).toNat v6) 217 1) ((g32 ((g32 (16 + (g32 (3 * (gI s7 (gR s7 217 1) 3))))) + 2)) : Int).toNat v8) (gR (gw (gw (gw s7 (gR s7 217 1) ((g32 ((g32 (16 + (g32 (3 * (gI s7 (gR s7 217 1) 3))))) + 0)) : Int).toNat v4) (gR (gw s7 (gR s7 217 1) ((g32 ((g32 (16 + (g32 (3 * (gI s7 (gR s7 217 1) 3))))) + 0)) : Int).toNat v4) 217 1) ((g32 ((g32 (16 + (g32 (3 * (gI s7 (gR s7 217 1) 3))))) + 1)) : Int).toNat v6) (gR (gw (gw s7 (gR s7 217 1) ((g32 ((g32 (16 + (g32 (3 * (gI s7 (gR s7 217 1) 3))))) + 0)) : Int).toNat v4) (gR (gw s7 (gR s7 217 1) ((g32 ((g32 (16 + (g32 (3 * (gI s7 (gR s7 217 1) 3))))) + 0)) : Int).toNat v4) 217 1) ((g32 ((g32 (16 + (g32 (3 * (gI s7 (gR s7 217 1) 3))))) + 1)) : Int).toNat v6) 217 1) ((g32 ((g32 (16 + (g32 (3 * (gI s7 (gR s7 217 1) 3))))) + 2)) : Int).toNat v8) 217 1) 3) + 1))) := (E_w hs193)
    try simp only [E_R hs194, E_i hs194, E_1 hs194, E_7 hs194, E_14 hs194]
    refine gG_ite ?_ ?_
    · refine gG_chk ?_
      refine gG_chk ?_
      refine gG_chk ?_
      exact gG_ret ⟨rfl, rfl, rfl, hs194⟩
    · exact gG_ret ⟨rfl, rfl, rfl, h190⟩
  · unfold fb_177_16
    dsimp only
    try simp only [E_R h, E_i h, E_1 h, E_7 h, E_14 h]
    refine gG_v1 (n_175 h) (fun v4 s3 s3p h195 => ?_)
    try simp only [E_R h195, E_i h195, E_1 h195, E_7 h195, E_14 h195]
    refine gG_v1 (n_175 h195) (fun v6 s5 s5p h196 => ?_)
    try simp only [E_R h196, E_i h196, E_1 h196, E_7 h196, E_14 h196]
    refine gG_v1 (n_175 h196) (fun v8 s7 s7p h197 => ?_)
    try simp only [E_R h197, E_i h197, E_1 h197, E_7 h197, E_14 h197]
    have hs198 : Eq8 (gw s7 (gR s7 217 1) ((g32 ((g32 (16 + (g32 (3 * (gI s7 (gR s7 217 1) 3))))) + 0)) : Int).toNat v4) (gw s7p (gR s7 217 1) ((g32 ((g32 (16 + (g32 (3 * (gI s7 (gR s7 217 1) 3))))) + 0)) : Int).toNat v4) := (E_w h197)
    try simp only [E_R hs198, E_i hs198, E_1 hs198, E_7 hs198, E_14 hs198]
    have hs199 : Eq8 (gw (gw s7 (gR s7 217 1) ((g32 ((g32 (16 + (g32 (3 * (gI s7 (gR s7 217 1) 3))))) + 0)) : Int).toNat v4) (gR (gw s7 (gR s7 217 1) ((g32 ((g32 (16 + (g32 (3 * (gI s7 (gR s7 217 1) 3))))) + 0)) : Int).toNat v4) 217 1) ((g32 ((g32 (16 + (g32 (3 * (gI s7 (gR s7 217 1) 3))))) + 1)) : Int).toNat v6) (gw (gw s7p (gR s7 217 1) ((g32 ((g32 (16 + (g32 (3 * (gI s7 (gR s7 217 1) 3))))) + 0)) : Int).toNat v4) (gR (gw s7 (gR s7 217 1) ((g32 ((g32 (16 + (g32 (3 * (gI s7 (gR s7 217 1) 3))))) + 0)) : Int).toNat v4) 217 1) ((g32 ((g32 (16 + (g32 (3 * (gI s7 (gR s7 217 1) 3))))) + 1)) : Int).toNat v6) := (E_w hs198)
    try simp only [E_R hs199, E_i hs199, E_1 hs199, E_7 hs199, E_14 hs199]
    have hs200 : Eq8 (gw (gw (gw s7 (gR s7 217 1) ((g32 ((g32 (16 + (g32 (3 * (gI s7 (gR s7 217 1) 3))))) + 0)) : Int).toNat v4) (gR (gw s7 (gR s7 217 1) ((g32 ((g32 (16 + (g32 (3 * (gI s7 (gR s7 217 1) 3))))) + 0)) : Int).toNat v4) 217 1) ((g32 ((g32 (16 + (g32 (3 * (gI s7 (gR s7 217 1) 3))))) + 1)) : Int).toNat v6) (gR (gw (gw s7 (gR s7 217 1) ((g32 ((g32 (16 + (g32 (3 * (gI s7 (gR s7 217 1) 3))))) + 0)) : Int).toNat v4) (gR (gw s7 (gR s7 217 1) ((g32 ((g32 (16 + (g32 (3 * (gI s7 (gR s7 217 1) 3))))) + 0)) : Int).toNat v4) 217 1) ((g32 ((g32 (16 + (g32 (3 * (gI s7 (gR s7 217 1) 3))))) + 1)) : Int).toNat v6) 217 1) ((g32 ((g32 (16 + (g32 (3 * (gI s7 (gR s7 217 1) 3))))) + 2)) : Int).toNat v8) (gw (gw (gw s7p (gR s7 217 1) ((g32 ((g32 (16 + (g32 (3 * (gI s7 (gR s7 217 1) 3))))) + 0)) : Int).toNat v4) (gR (gw s7 (gR s7 217 1) ((g32 ((g32 (16 + (g32 (3 * (gI s7 (gR s7 217 1) 3))))) + 0)) : Int).toNat v4) 217 1) ((g32 ((g32 (16 + (g32 (3 * (gI s7 (gR s7 217 1) 3))))) + 1)) : Int).toNat v6) (gR (gw (gw s7 (gR s7 217 1) ((g32 ((g32 (16 + (g32 (3 * (gI s7 (gR s7 217 1) 3))))) + 0)) : Int).toNat v4) (gR (gw s7 (gR s7 217 1) ((g32 ((g32 (16 + (g32 (3 * (gI s7 (gR s7 217 1) 3))))) + 0)) : Int).toNat v4) 217 1) ((g32 ((g32 (16 + (g32 (3 * (gI s7 (gR s7 217 1) 3))))) + 1)) : Int).toNat v6) 217 1) ((g32 ((g32 (16 + (g32 (3 * (gI s7 (gR s7 217 1) 3))))) + 2)) : Int).toNat v8) := (E_w hs199)
    try simp only [E_R hs200, E_i hs200, E_1 hs200, E_7 hs200, E_14 hs200]
    have hs201 : Eq8 (gw (gw (gw (gw s7 (gR s7 217 1) ((g32 ((g32 (16 + (g32 (3 * (gI s7 (gR s7 217 1) 3))))) + 0)) : Int).toNat v4) (gR (gw s7 (gR s7 217 1) ((g32 ((g32 (16 + (g32 (3 * (gI s7 (gR s7 217 1) 3))))) + 0)) : Int).toNat v4) 217 1) ((g32 ((g32 (16 + (g32 (3 * (gI s7 (gR s7 217 1) 3))))) + 1)) : Int).toNat v6) (gR (gw (gw s7 (gR s7 217 1) ((g32 ((g32 (16 + (g32 (3 * (gI s7 (gR s7 217 1) 3))))) + 0)) : Int).toNat v4) (gR (gw s7 (gR s7 217 1) ((g32 ((g32 (16 + (g32 (3 * (gI s7 (gR s7 217 1) 3))))) + 0)) : Int).toNat v4) 217 1) ((g32 ((g32 (16 + (g32 (3 * (gI s7 (gR s7 217 1) 3))))) + 1)) : Int).toNat v6) 217 1) ((g32 ((g32 (16 + (g32 (3 * (gI s7 (gR s7 217 1) 3))))) + 2)) : Int).toNat v8) (gR (gw (gw (gw s7 (gR s7 217 1) ((g32 ((g32 (16 + (g32 (3 * (gI s7 (gR s7 217 1) 3))))) + 0)) : Int).toNat v4) (gR (gw s7 (gR s7 217 1) ((g32 ((g32 (16 + (g32 (3 * (gI s7 (gR s7 217 1) 3))))) + 0)) : Int).toNat v4) 217 1) ((g32 ((g32 (16 + (g32 (3 * (gI s7 (gR s7 217 1) 3))))) + 1)) : Int).toNat v6) (gR (gw (gw s7 (gR s7 217 1) ((g32 ((g32 (16 + (g32 (3 * (gI s7 (gR s7 217 1) 3))))) + 0)) : Int).toNat v4) (gR (gw s7 (gR s7 217 1) ((g32 ((g32 (16 + (g32 (3 * (gI s7 (gR s7 217 1) 3))))) + 0)) : Int).toNat v4) 217 1) ((g32 ((g32 (16 + (g32 (3 * (gI s7 (gR s7 217 1) 3))))) + 1)) : Int).toNat v6) 217 1) ((g32 ((g32 (16 + (g32 (3 * (gI s7 (gR s7 217 1) 3))))) + 2)) : Int).toNat v8) 217 1) 3 (g32 ((gI (gw (gw (gw s7 (gR s7 217 1) ((g32 ((g32 (16 + (g32 (3 * (gI s7 (gR s7 217 1) 3))))) + 0)) : Int).toNat v4) (gR (gw s7 (gR s7 217 1) ((g32 ((g32 (16 + (g32 (3 * (gI s7 (gR s7 217 1) 3))))) + 0)) : Int).toNat v4) 217 1) ((g32 ((g32 (16 + (g32 (3 * (gI s7 (gR s7 217 1) 3))))) + 1)) : Int).toNat v6) (gR (gw (gw s7 (gR s7 217 1) ((g32 ((g32 (16 + (g32 (3 * (gI s7 (gR s7 217 1) 3))))) + 0)) : Int).toNat v4) (gR (gw s7 (gR s7 217 1) ((g32 ((g32 (16 + (g32 (3 * (gI s7 (gR s7 217 1) 3))))) + 0)) : Int).toNat v4) 217 1) ((g32 ((g32 (16 + (g32 (3 * (gI s7 (gR s7 217 1) 3))))) + 1)) : Int).toNat v6) 217 1) ((g32 ((g32 (16 + (g32 (3 * (gI s7 (gR s7 217 1) 3))))) + 2)) : Int).toNat v8) (gR (gw (gw (gw s7 (gR s7 217 1) ((g32 ((g32 (16 + (g32 (3 * (gI s7 (gR s7 217 1) 3))))) + 0)) : Int).toNat v4) (gR (gw s7 (gR s7 217 1) ((g32 ((g32 (16 + (g32 (3 * (gI s7 (gR s7 217 1) 3))))) + 0)) : Int).toNat v4) 217 1) ((g32 ((g32 (16 + (g32 (3 * (gI s7 (gR s7 217 1) 3))))) + 1)) : Int).toNat v6) (gR (gw (gw s7 (gR s7 217 1) ((g32 ((g32 (16 + (g32 (3 * (gI s7 (gR s7 217 1) 3))))) + 0)) : Int).toNat v4) (gR (gw s7 (gR s7 217 1) ((g32 ((g32 (16 + (g32 (3 * (gI s7 (gR s7 217 1) 3))))) + 0)) : Int).toNat v4) 217 1) ((g32 ((g32 (16 + (g32 (3 * (gI s7 (gR s7 217 1) 3))))) + 1)) : Int).toNat v6) 217 1) ((g32 ((g32 (16 + (g32 (3 * (gI s7 (gR s7 217 1) 3))))) + 2)) : Int).toNat v8) 217 1) 3) + 1))) (gw (gw (gw (gw s7p (gR s7 217 1) ((g32 ((g32 (16 + (g32 (3 * (gI s7 (gR s7 217 1) 3))))) + 0)) : Int).toNat v4) (gR (gw s7 (gR s7 217 1) ((g32 ((g32 (16 + (g32 (3 * (gI s7 (gR s7 217 1) 3))))) + 0)) : Int).toNat v4) 217 1) ((g32 ((g32 (16 + (g32 (3 * (gI s7 (gR s7 217 1) 3))))) + 1)) : Int).toNat v6) (gR (gw (gw s7 (gR s7 217 1) ((g32 ((g32 (16 + (g32 (3 * (gI s7 (gR s7 217 1) 3))))) + 0)) : Int).toNat v4) (gR (gw s7 (gR s7 217 1) ((g32 ((g32 (16 + (g32 (3 * (gI s7 (gR s7 217 1) 3))))) + 0)) : Int).toNat v4) 217 1) ((g32 ((g32 (16 + (g32 (3 * (gI s7 (gR s7 217 1) 3))))) + 1)) : Int).toNat v6) 217 1) ((g32 ((g32 (16 + (g32 (3 * (gI s7 (gR s7 217 1) 3))))) + 2)) : Int).toNat v8) (gR (gw (gw (gw s7 (gR s7 217 1) ((g32 ((g32 (16 + (g32 (3 * (gI s7 (gR s7 217 1) 3))))) + 0)) : Int).toNat v4) (gR (gw s7 (gR s7 217 1) ((g32 ((g32 (16 + (g32 (3 * (gI s7 (gR s7 217 1) 3))))) + 0)) : Int).toNat v4) 217 1) ((g32 ((g32 (16 + (g32 (3 * (gI s7 (gR s7 217 1) 3))))) + 1)) : Int).toNat v6) (gR (gw (gw s7 (gR s7 217 1) ((g32 ((g32 (16 + (g32 (3 * (gI s7 (gR s7 217 1) 3))))) + 0)) : Int).toNat v4) (gR (gw s7 (gR s7 217 1) ((g32 ((g32 (16 + (g32 (3 * (gI s7 (gR s7 217 1) 3))))) + 0)) : Int).toNat v4) 217 1) ((g32 ((g32 (16 + (g32 (3 * (gI s7 (gR s7 217 1) 3))))) + 1)) : Int).toNat v6) 217 1) ((g32 ((g32 (16 + (g32 (3 * (gI s7 (gR s7 217 1) 3))))) + 2)) : Int).toNat v8) 217 1) 3 (g32 ((gI (gw (gw (gw s7 (gR s7 217 1) ((g32 ((g32 (16 + (g32 (3 * (gI s7 (gR s7 217 1) 3))))) + 0)) : Int).toNat v4) (gR (gw s7 (gR s7 217 1) ((g32 ((g32 (16 + (g32 (3 * (gI s7 (gR s7 217 1) 3))))) + 0)) : Int).toNat v4) 217 1) ((g32 ((g32 (16 + (g32 (3 * (gI s7 (gR s7 217 1) 3))))) + 1)) : Int).toNat v6) (gR (gw (gw s7 (gR s7 217 1) ((g32 ((g32 (16 + (g32 (3 * (gI s7 (gR s7 217 1) 3))))) + 0)) : Int).toNat v4) (gR (gw s7 (gR s7 217 1) ((g32 ((g32 (16 + (g32 (3 * (gI s7 (gR s7 217 1) 3))))) + 0)) : Int).toNat v4) 217 1) ((g32 ((g32 (16 + (g32 (3 * (gI s7 (gR s7 217 1) 3))))) + 1)) : Int).toNat v6) 217 1) ((g32 ((g32 (16 + (g32 (3 * (gI s7 (gR s7 217 1) 3))))) + 2)) : Int).toNat v8) (gR (gw (gw (gw s7 (gR s7 217 1) ((g32 ((g32 (16 + (g32 (3 * (gI s7 (gR s7 217 1) 3))))) + 0)) : Int).toNat v4) (gR (gw s7 (gR s7 217 1) ((g32 ((g32 (16 + (g32 (3 * (gI s7 (gR s7 217 1) 3))))) + 0)) : Int).toNat v4) 217 1) ((g32 ((g32 (16 + (g32 (3 * (gI s7 (gR s7 217 1) 3))))) + 1)) : Int).toNat v6) (gR (gw (gw s7 (gR s7 217 1) ((g32 ((g32 (16 + (g32 (3 * (gI s7 (gR s7 217 1) 3))))) + 0)) : Int).toNat v4) (gR (gw s7 (gR s7 217 1) ((g32 ((g32 (16 + (g32 (3 * (gI s7 (gR s7 217 1) 3))))) + 0)) : Int).toNat v4) 217 1) ((g32 ((g32 (16 + (g32 (3 * (gI s7 (gR s7 217 1) 3))))) + 1)) : Int).toNat v6) 217 1) ((g32 ((g32 (16 + (g32 (3 * (gI s7 (gR s7 217 1) 3))))) + 2)) : Int).toNat v8) 217 1) 3) + 1))) := (E_w hs200)
    try simp only [E_R hs201, E_i hs201, E_1 hs201, E_7 hs201, E_14 hs201]
    refine gG_ite ?_ ?_
    · refine gG_chk ?_
      refine gG_chk ?_
      refine gG_chk ?_
      exact gG_ret ⟨rfl, rfl, rfl, hs201⟩
    · exact gG_ret ⟨rfl, rfl, rfl, h197⟩

theorem n_178  {a1 : Int} {s s' : gS}  (h : Eq8 s s') : gG PE (f_178 217 a1 s) (f_178 217 a1 s') := by
  unfold f_178
  try simp only [E_R h, E_i h, E_1 h, E_7 h, E_14 h]
  refine gG_ite ?_ ?_
  · refine gG_v0 (n_172 h) (fun s1 s1p h202 => ?_)
    try simp only [E_R h202, E_i h202, E_1 h202, E_7 h202, E_14 h202]
    unfold fb_178_16
    dsimp only
    try simp only [E_R h202, E_i h202, E_1 h202, E_7 h202, E_14 h202]
    refine gG_v1 (n_175 h202) (fun v4 s3 s3p h203 => ?_)
    try simp only [E_R h203, E_i h203, E_1 h203, E_7 h203, E_14 h203]
    refine gG_v1 (n_175 h203) (fun v6 s5 s5p h204 => ?_)
    try simp only [E_R h204, E_i h204, E_1 h204, E_7 h204, E_14 h204]
    refine gG_v1 (n_176 h204) (fun v8 s7 s7p h205 => ?_)
    try simp only [E_R h205, E_i h205, E_1 h205, E_7 h205, E_14 h205]
    refine gG_ite ?_ ?_
    · refine gG_v0 (n_157 h205) (fun s10 s10p h206 => ?_)
      try simp only [E_R h206, E_i h206, E_1 h206, E_7 h206, E_14 h206]
      refine gG_v0 (n_157 h206) (fun s12 s12p h207 => ?_)
      try simp only [E_R h207, E_i h207, E_1 h207, E_7 h207, E_14 h207]
      refine gG_v0 (n_157 h207) (fun s14 s14p h208 => ?_)
      try simp only [E_R h208, E_i h208, E_1 h208, E_7 h208, E_14 h208]
      refine gG_v0 (n_157 h208) (fun s16 s16p h209 => ?_)
      try simp only [E_R h209, E_i h209, E_1 h209, E_7 h209, E_14 h209]
      refine gG_v0 (n_157 h209) (fun s18 s18p h210 => ?_)
      try simp only [E_R h210, E_i h210, E_1 h210, E_7 h210, E_14 h210]
      refine gG_v0 (n_157 h210) (fun s20 s20p h211 => ?_)
      try simp only [E_R h211, E_i h211, E_1 h211, E_7 h211, E_14 h211]
      have hs212 : Eq8 (gw s20 (gR s20 217 1) 4 (g32 ((gI s20 (gR s20 217 1) 4) + 1))) (gw s20p (gR s20 217 1) 4 (g32 ((gI s20 (gR s20 217 1) 4) + 1))) := (E_w h211)
      try simp only [E_R hs212, E_i hs212, E_1 hs212, E_7 hs212, E_14 hs212]
      exact gG_ret ⟨rfl, rfl, rfl, hs212⟩
    · exact gG_ret ⟨rfl, rfl, rfl, h205⟩
  · unfold fb_178_16
    dsimp only
    try simp only [E_R h, E_i h, E_1 h, E_7 h, E_14 h]
    refine gG_v1 (n_175 h) (fun v4 s3 s3p h213 => ?_)
    try simp only [E_R h213, E_i h213, E_1 h213, E_7 h213, E_14 h213]
    refine gG_v1 (n_175 h213) (fun v6 s5 s5p h214 => ?_)
    try simp only [E_R h214, E_i h214, E_1 h214, E_7 h214, E_14 h214]
    refine gG_v1 (n_176 h214) (fun v8 s7 s7p h215 => ?_)
    try simp only [E_R h215, E_i h215, E_1 h215, E_7 h215, E_14 h215]
    refine gG_ite ?_ ?_
    · refine gG_v0 (n_157 h215) (fun s10 s10p h216 => ?_)
      try simp only [E_R h216, E_i h216, E_1 h216, E_7 h216, E_14 h216]
      refine gG_v0 (n_157 h216) (fun s12 s12p h217 => ?_)
      try simp only [E_R h217, E_i h217, E_1 h217, E_7 h217, E_14 h217]
      refine gG_v0 (n_157 h217) (fun s14 s14p h218 => ?_)
      try simp only [E_R h218, E_i h218, E_1 h218, E_7 h218, E_14 h218]
      refine gG_v0 (n_157 h218) (fun s16 s16p h219 => ?_)
      try simp only [E_R h219, E_i h219, E_1 h219, E_7 h219, E_14 h219]
      refine gG_v0 (n_157 h219) (fun s18 s18p h220 => ?_)
      try simp only [E_R h220, E_i h220, E_1 h220, E_7 h220, E_14 h220]
      refine gG_v0 (n_157 h220) (fun s20 s20p h221 => ?_)
      try simp only [E_R h221, E_i h221, E_1 h221, E_7 h221, E_14 h221]
      have hs222 : Eq8 (gw s20 (gR s20 217 1) 4 (g32 ((gI s20 (gR s20 217 1) 4) + 1))) (gw s20p (gR s20 217 1) 4 (g32 ((gI s20 (gR s20 217 1) 4) + 1))) := (E_w h221)
      try simp only [E_R hs222, E_i hs222, E_1 hs222, E_7 hs222, E_14 hs222]
      exact gG_ret ⟨rfl, rfl, rfl, hs222⟩
    · exact gG_ret ⟨rfl, rfl, rfl, h215⟩

theorem n_179  {a1 : Int} {s s' : gS}  (h : Eq8 s s') : gG PE (f_179 217 a1 s) (f_179 217 a1 s') := by
  unfold f_179
  try simp only [E_R h, E_i h, E_1 h, E_7 h, E_14 h]
  refine gG_ite ?_ ?_
  · refine gG_v0 (n_172 h) (fun s1 s1p h223 => ?_)
    try simp only [E_R h223, E_i h223, E_1 h223, E_7 h223, E_14 h223]
    unfold fb_179_16
    dsimp only
    try simp only [E_R h223, E_i h223, E_1 h223, E_7 h223, E_14 h223]
    refine gG_v1 (n_175 h223) (fun v4 s3 s3p h224 => ?_)
    try simp only [E_R h224, E_i h224, E_1 h224, E_7 h224, E_14 h224]
    refine gG_v1 (n_176 h224) (fun v6 s5 s5p h225 => ?_)
    try simp only [E_R h225, E_i h225, E_1 h225, E_7 h225, E_14 h225]
    have hs226 : Eq8 (gw s5 (gR s5 217 1) ((g32 (76 + (g32 (2 * (gI s5 (gR s5 217 1) 5))))) : Int).toNat v4) (gw s5p (gR s5 217 1) ((g32 (76 + (g32 (2 * (gI s5 (gR s5 217 1) 5))))) : Int).toNat v4) := (E_w h225)
    try simp only [E_R hs226, E_i hs226, E_1 hs226, E_7 hs226, E_14 hs226]
    have hs227 : Eq8 (gw (gw s5 (gR s5 217 1) ((g32 (76 + (g32 (2 * (gI s5 (gR s5 217 1) 5))))) : Int).toNat v4) (gR (gw s5 (gR s5 217 1) ((g32 (76 + (g32 (2 * (gI s5 (gR s5 217 1) 5))))) : Int).toNat v4) 217 1) ((g32 ((g32 (76 + (g32 (2 * (gI (gw s5 (gR s5 217 1) ((g32 (76 + (g32 (2 * (gI s5 (gR s5 217 1) 5))))) : Int).toNat v4) (gR (gw s5 (gR s5 217 1) ((g32 (76 + (g32 (2 * (gI s5 (gR s5 217 1) 5))))) : Int).toNat v4) 217 1) 5))))) + 1)) : Int).toNat v6) (gw (gw s5p (gR s5 217 1) ((g32 (76 + (g32 (2 * (gI s5 (gR s5 217 1) 5))))) : Int).toNat v4) (gR (gw s5 (gR s5 217 1) ((g32 (76 + (g32 (2 * (gI s5 (gR s5 217 1) 5))))) : Int).toNat v4) 217 1) ((g32 ((g32 (76 + (g32 (2 * (gI (gw s5 (gR s5 217 1) ((g32 (76 + (g32 (2 * (gI s5 (gR s5 217 1) 5))))) : Int).toNat v4) (gR (gw s5 (gR s5 217 1) ((g32 (76 + (g32 (2 * (gI s5 (gR s5 217 1) 5))))) : Int).toNat v4) 217 1) 5))))) + 1)) : Int).toNat v6) := (E_w hs226)
    try simp only [E_R hs227, E_i hs227, E_1 hs227, E_7 hs227, E_14 hs227]
    have hs228 : Eq8 (gw (gw (gw s5 (gR s5 217 1) ((g32 (76 + (g32 (2 * (gI s5 (gR s5 217 1) 5))))) : Int).toNat v4) (gR (gw s5 (gR s5 217 1) ((g32 (76 + (g32 (2 * (gI s5 (gR s5 217 1) 5))))) : Int).toNat v4) 217 1) ((g32 ((g32 (76 + (g32 (2 * (gI (gw s5 (gR s5 217 1) ((g32 (76 + (g32 (2 * (gI s5 (gR s5 217 1) 5))))) : Int).toNat v4) (gR (gw s5 (gR s5 217 1) ((g32 (76 + (g32 (2 * (gI s5 (gR s5 217 1) 5))))) : Int).toNat v4) 217 1) 5))))) + 1)) : Int).toNat v6) (gR (gw (gw s5 (gR s5 217 1) ((g32 (76 + (g32 (2 * (gI s5 (gR s5 217 1) 5))))) : Int).toNat v4) (gR (gw s5 (gR s5 217 1) ((g32 (76 + (g32 (2 * (gI s5 (gR s5 217 1) 5))))) : Int).toNat v4) 217 1) ((g32 ((g32 (76 + (g32 (2 * (gI (gw s5 (gR s5 217 1) ((g32 (76 + (g32 (2 * (gI s5 (gR s5 217 1) 5))))) : Int).toNat v4) (gR (gw s5 (gR s5 217 1) ((g32 (76 + (g32 (2 * (gI s5 (gR s5 217 1) 5))))) : Int).toNat v4) 217 1) 5))))) + 1)) : Int).toNat v6) 217 1) 5 (g32 ((gI (gw (gw s5 (gR s5 217 1) ((g32 (76 + (g32 (2 * (gI s5 (gR s5 217 1) 5))))) : Int).toNat v4) (gR (gw s5 (gR s5 217 1) ((g32 (76 + (g32 (2 * (gI s5 (gR s5 217 1) 5))))) : Int).toNat v4) 217 1) ((g32 ((g32 (76 + (g32 (2 * (gI (gw s5 (gR s5 217 1) ((g32 (76 + (g32 (2 * (gI s5 (gR s5 217 1) 5))))) : Int).toNat v4) (gR (gw s5 (gR s5 217 1) ((g32 (76 + (g32 (2 * (gI s5 (gR s5 217 1) 5))))) : Int).toNat v4) 217 1) 5))))) + 1)) : Int).toNat v6) (gR (gw (gw s5 (gR s5 217 1) ((g32 (76 + (g32 (2 * (gI s5 (gR s5 217 1) 5))))) : Int).toNat v4) (gR (gw s5 (gR s5 217 1) ((g32 (76 + (g32 (2 * (gI s5 (gR s5 217 1) 5))))) : Int).toNat v4) 217 1) ((g32 ((g32 (76 + (g32 (2 * (gI (gw s5 (gR s5 217 1) ((g32 (76 + (g32 (2 * (gI s5 (gR s5 217 1) 5))))) : Int).toNat v4) (gR (gw s5 (gR s5 217 1) ((g32 (76 + (g32 (2 * (gI s5 (gR s5 217 1) 5))))) : Int).toNat v4) 217 1) 5))))) + 1)) : Int).toNat v6) 217 1) 5) + 1))) (gw (gw (gw s5p (gR s5 217 1) ((g32 (76 + (g32 (2 * (gI s5 (gR s5 217 1) 5))))) : Int).toNat v4) (gR (gw s5 (gR s5 217 1) ((g32 (76 + (g32 (2 * (gI s5 (gR s5 217 1) 5))))) : Int).toNat v4) 217 1) ((g32 ((g32 (76 + (g32 (2 * (gI (gw s5 (gR s5 217 1) ((g32 (76 + (g32 (2 * (gI s5 (gR s5 217 1) 5))))) : Int).toNat v4) (gR (gw s5 (gR s5 217 1) ((g32 (76 + (g32 (2 * (gI s5 (gR s5 217 1) 5))))) : Int).toNat v4) 217 1) 5))))) + 1)) : Int).toNat v6) (gR (gw (gw s5 (gR s5 217 1) ((g32 (76 + (g32 (2 * (gI s5 (gR s5 217 1) 5))))) : Int).toNat v4) (gR (gw s5 (gR s5 217 1) ((g32 (76 + (g32 (2 * (gI s5 (gR s5 217 1) 5))))) : Int).toNat v4) 217 1) ((g32 ((g32 (76 + (g32 (2 * (gI (gw s5 (gR s5 217 1) ((g32 (76 + (g32 (2 * (gI s5 (gR s5 217 1) 5))))) : Int).toNat v4) (gR (gw s5 (gR s5 217 1) ((g32 (76 + (g32 (2 * (gI s5 (gR s5 217 1) 5))))) : Int).toNat v4) 217 1) 5))))) + 1)) : Int).toNat v6) 217 1) 5 (g32 ((gI (gw (gw s5 (gR s5 217 1) ((g32 (76 + (g32 (2 * (gI s5 (gR s5 217 1) 5))))) : Int).toNat v4) (gR (gw s5 (gR s5 217 1) ((g32 (76 + (g32 (2 * (gI s5 (gR s5 217 1) 5))))) : Int).toNat v4) 217 1) ((g32 ((g32 (76 + (g32 (2 * (gI (gw s5 (gR s5 217 1) ((g32 (76 + (g32 (2 * (gI s5 (gR s5 217 1) 5))))) : Int).toNat v4) (gR (gw s5 (gR s5 217 1) ((g32 (76 + (g32 (2 * (gI s5 (gR s5 217 1) 5))))) : Int).toNat v4) 217 1) 5))))) + 1)) : Int).toNat v6) (gR (gw (gw s5 (gR s5 217 1) ((g32 (76 + (g32 (2 * (gI s5 (gR s5 217 1) 5))))) : Int).toNat v4) (gR (gw s5 (gR s5 217 1) ((g32 (76 + (g32 (2 * (gI s5 (gR s5 217 1) 5))))) : Int).toNat v4) 217 1) ((g32 ((g32 (76 + (g32 (2 * (gI (gw s5 (gR s5 217 1) ((g32 (76 + (g32 (2 * (gI s5 (gR s5 217 1) 5))))) : Int).toNat v4) (gR (gw s5 (gR s5 217 1) ((g32 (76 + (g32 (2 * (gI s5 (gR s5 217 1) 5))))) : Int).toNat v4) 217 1) 5))))) + 1)) : Int).toNat v6) 217 1) 5) + 1))) := (E_w hs227)
    try simp only [E_R hs228, E_i hs228, E_1 hs228, E_7 hs228, E_14 hs228]
    refine gG_ite ?_ ?_
    · refine gG_chk ?_
      refine gG_chk ?_
      exact gG_ret ⟨rfl, rfl, rfl, hs228⟩
    · exact gG_ret ⟨rfl, rfl, rfl, h225⟩
  · unfold fb_179_16
    dsimp only
    try simp only [E_R h, E_i h, E_1 h, E_7 h, E_14 h]
    refine gG_v1 (n_175 h) (fun v4 s3 s3p h229 => ?_)
    try simp only [E_R h229, E_i h229, E_1 h229, E_7 h229, E_14 h229]
    refine gG_v1 (n_176 h229) (fun v6 s5 s5p h230 => ?_)
    try simp only [E_R h230, E_i h230, E_1 h230, E_7 h230, E_14 h230]
    have hs231 : Eq8 (gw s5 (gR s5 217 1) ((g32 (76 + (g32 (2 * (gI s5 (gR s5 217 1) 5))))) : Int).toNat v4) (gw s5p (gR s5 217 1) ((g32 (76 + (g32 (2 * (gI s5 (gR s5 217 1) 5))))) : Int).toNat v4) := (E_w h230)
    try simp only [E_R hs231, E_i hs231, E_1 hs231, E_7 hs231, E_14 hs231]
    have hs232 : Eq8 (gw (gw s5 (gR s5 217 1) ((g32 (76 + (g32 (2 * (gI s5 (gR s5 217 1) 5))))) : Int).toNat v4) (gR (gw s5 (gR s5 217 1) ((g32 (76 + (g32 (2 * (gI s5 (gR s5 217 1) 5))))) : Int).toNat v4) 217 1) ((g32 ((g32 (76 + (g32 (2 * (gI (gw s5 (gR s5 217 1) ((g32 (76 + (g32 (2 * (gI s5 (gR s5 217 1) 5))))) : Int).toNat v4) (gR (gw s5 (gR s5 217 1) ((g32 (76 + (g32 (2 * (gI s5 (gR s5 217 1) 5))))) : Int).toNat v4) 217 1) 5))))) + 1)) : Int).toNat v6) (gw (gw s5p (gR s5 217 1) ((g32 (76 + (g32 (2 * (gI s5 (gR s5 217 1) 5))))) : Int).toNat v4) (gR (gw s5 (gR s5 217 1) ((g32 (76 + (g32 (2 * (gI s5 (gR s5 217 1) 5))))) : Int).toNat v4) 217 1) ((g32 ((g32 (76 + (g32 (2 * (gI (gw s5 (gR s5 217 1) ((g32 (76 + (g32 (2 * (gI s5 (gR s5 217 1) 5))))) : Int).toNat v4) (gR (gw s5 (gR s5 217 1) ((g32 (76 + (g32 (2 * (gI s5 (gR s5 217 1) 5))))) : Int).toNat v4) 217 1) 5))))) + 1)) : Int).toNat v6) := (E_w hs231)
    try simp only [E_R hs232, E_i hs232, E_1 hs232, E_7 hs232, E_14 hs232]
    have hs233 : Eq8 (gw (gw (gw s5 (gR s5 217 1) ((g32 (76 + (g32 (2 * (gI s5 (gR s5 217 1) 5))))) : Int).toNat v4) (gR (gw s5 (gR s5 217 1) ((g32 (76 + (g32 (2 * (gI s5 (gR s5 217 1) 5))))) : Int).toNat v4) 217 1) ((g32 ((g32 (76 + (g32 (2 * (gI (gw s5 (gR s5 217 1) ((g32 (76 + (g32 (2 * (gI s5 (gR s5 217 1) 5))))) : Int).toNat v4) (gR (gw s5 (gR s5 217 1) ((g32 (76 + (g32 (2 * (gI s5 (gR s5 217 1) 5))))) : Int).toNat v4) 217 1) 5))))) + 1)) : Int).toNat v6) (gR (gw (gw s5 (gR s5 217 1) ((g32 (76 + (g32 (2 * (gI s5 (gR s5 217 1) 5))))) : Int).toNat v4) (gR (gw s5 (gR s5 217 1) ((g32 (76 + (g32 (2 * (gI s5 (gR s5 217 1) 5))))) : Int).toNat v4) 217 1) ((g32 ((g32 (76 + (g32 (2 * (gI (gw s5 (gR s5 217 1) ((g32 (76 + (g32 (2 * (gI s5 (gR s5 217 1) 5))))) : Int).toNat v4) (gR (gw s5 (gR s5 217 1) ((g32 (76 + (g32 (2 * (gI s5 (gR s5 217 1) 5))))) : Int).toNat v4) 217 1) 5))))) + 1)) : Int).toNat v6) 217 1) 5 (g32 ((gI (gw (gw s5 (gR s5 217 1) ((g32 (76 + (g32 (2 * (gI s5 (gR s5 217 1) 5))))) : Int).toNat v4) (gR (gw s5 (gR s5 217 1) ((g32 (76 + (g32 (2 * (gI s5 (gR s5 217 1) 5))))) : Int).toNat v4) 217 1) ((g32 ((g32 (76 + (g32 (2 * (gI (gw s5 (gR s5 217 1) ((g32 (76 + (g32 (2 * (gI s5 (gR s5 217 1) 5))))) : Int).toNat v4) (gR (gw s5 (gR s5 217 1) ((g32 (76 + (g32 (2 * (gI s5 (gR s5 217 1) 5))))) : Int).toNat v4) 217 1) 5))))) + 1)) : Int).toNat v6) (gR (gw (gw s5 (gR s5 217 1) ((g32 (76 + (g32 (2 * (gI s5 (gR s5 217 1) 5))))) : Int).toNat v4) (gR (gw s5 (gR s5 217 1) ((g32 (76 + (g32 (2 * (gI s5 (gR s5 217 1) 5))))) : Int).toNat v4) 217 1) ((g32 ((g32 (76 + (g32 (2 * (gI (gw s5 (gR s5 217 1) ((g32 (76 + (g32 (2 * (gI s5 (gR s5 217 1) 5))))) : Int).toNat v4) (gR (gw s5 (gR s5 217 1) ((g32 (76 + (g32 (2 * (gI s5 (gR s5 217 1) 5))))) : Int).toNat v4) 217 1) 5))))) + 1)) : Int).toNat v6) 217 1) 5) + 1))) (gw (gw (gw s5p (gR s5 217 1) ((g32 (76 + (g32 (2 * (gI s5 (gR s5 217 1) 5))))) : Int).toNat v4) (gR (gw s5 (gR s5 217 1) ((g32 (76 + (g32 (2 * (gI s5 (gR s5 217 1) 5))))) : Int).toNat v4) 217 1) ((g32 ((g32 (76 + (g32 (2 * (gI (gw s5 (gR s5 217 1) ((g32 (76 + (g32 (2 * (gI s5 (gR s5 217 1) 5))))) : Int).toNat v4) (gR (gw s5 (gR s5 217 1) ((g32 (76 + (g32 (2 * (gI s5 (gR s5 217 1) 5))))) : Int).toNat v4) 217 1) 5))))) + 1)) : Int).toNat v6) (gR (gw (gw s5 (gR s5 217 1) ((g32 (76 + (g32 (2 * (gI s5 (gR s5 217 1) 5))))) : Int).toNat v4) (gR (gw s5 (gR s5 217 1) ((g32 (76 + (g32 (2 * (gI s5 (gR s5 217 1) 5))))) : Int).toNat v4) 217 1) ((g32 ((g32 (76 + (g32 (2 * (gI (gw s5 (gR s5 217 1) ((g32 (76 + (g32 (2 * (gI s5 (gR s5 217 1) 5))))) : Int).toNat v4) (gR (gw s5 (gR s5 217 1) ((g32 (76 + (g32 (2 * (gI s5 (gR s5 217 1) 5))))) : Int).toNat v4) 217 1) 5))))) + 1)) : Int).toNat v6) 217 1) 5 (g32 ((gI (gw (gw s5 (gR s5 217 1) ((g32 (76 + (g32 (2 * (gI s5 (gR s5 217 1) 5))))) : Int).toNat v4) (gR (gw s5 (gR s5 217 1) ((g32 (76 + (g32 (2 * (gI s5 (gR s5 217 1) 5))))) : Int).toNat v4) 217 1) ((g32 ((g32 (76 + (g32 (2 * (gI (gw s5 (gR s5 217 1) ((g32 (76 + (g32 (2 * (gI s5 (gR s5 217 1) 5))))) : Int).toNat v4) (gR (gw s5 (gR s5 217 1) ((g32 (76 + (g32 (2 * (gI s5 (gR s5 217 1) 5))))) : Int).toNat v4) 217 1) 5))))) + 1)) : Int).toNat v6) (gR (gw (gw s5 (gR s5 217 1) ((g32 (76 + (g32 (2 * (gI s5 (gR s5 217 1) 5))))) : Int).toNat v4) (gR (gw s5 (gR s5 217 1) ((g32 (76 + (g32 (2 * (gI s5 (gR s5 217 1) 5))))) : Int).toNat v4) 217 1) ((g32 ((g32 (76 + (g32 (2 * (gI (gw s5 (gR s5 217 1) ((g32 (76 + (g32 (2 * (gI s5 (gR s5 217 1) 5))))) : Int).toNat v4) (gR (gw s5 (gR s5 217 1) ((g32 (76 + (g32 (2 * (gI s5 (gR s5 217 1) 5))))) : Int).toNat v4) 217 1) 5))))) + 1)) : Int).toNat v6) 217 1) 5) + 1))) := (E_w hs232)
    try simp only [E_R hs233, E_i hs233, E_1 hs233, E_7 hs233, E_14 hs233]
    refine gG_ite ?_ ?_
    · refine gG_chk ?_
      refine gG_chk ?_
      exact gG_ret ⟨rfl, rfl, rfl, hs233⟩
    · exact gG_ret ⟨rfl, rfl, rfl, h230⟩

theorem n_180  {a1 : Int} {s s' : gS}  (h : Eq8 s s') : gG PE (f_180 217 a1 s) (f_180 217 a1 s') := by
  unfold f_180
  try simp only [E_R h, E_i h, E_1 h, E_7 h, E_14 h]
  refine gG_ite ?_ ?_
  · refine gG_v0 (n_172 h) (fun s1 s1p h234 => ?_)
    try simp only [E_R h234, E_i h234, E_1 h234, E_7 h234, E_14 h234]
    unfold fb_180_17
    dsimp only
    try simp only [E_R h234, E_i h234, E_1 h234, E_7 h234, E_14 h234]
    refine gG_v1 (n_174 h234) (fun v4 s3 s3p h235 => ?_)
    try simp only [E_R h235, E_i h235, E_1 h235, E_7 h235, E_14 h235]
    have hs236 : Eq8 (gw s3 (gR s3 217 1) ((g32 ((g32 (88 + (g32 (2 * (gI s3 (gR s3 217 1) 6))))) + 0)) : Int).toNat v4) (gw s3p (gR s3 217 1) ((g32 ((g32 (88 + (g32 (2 * (gI s3 (gR s3 217 1) 6))))) + 0)) : Int).toNat v4) := (E_w h235)
    try simp only [E_R hs236, E_i hs236, E_1 hs236, E_7 hs236, E_14 hs236]
    have hs237 : Eq8 (gw (gw s3 (gR s3 217 1) ((g32 ((g32 (88 + (g32 (2 * (gI s3 (gR s3 217 1) 6))))) + 0)) : Int).toNat v4) (gR (gw s3 (gR s3 217 1) ((g32 ((g32 (88 + (g32 (2 * (gI s3 (gR s3 217 1) 6))))) + 0)) : Int).toNat v4) 217 1) ((g32 ((g32 (88 + (g32 (2 * (gI (gw s3 (gR s3 217 1) ((g32 ((g32 (88 + (g32 (2 * (gI s3 (gR s3 217 1) 6))))) + 0)) : Int).toNat v4) (gR (gw s3 (gR s3 217 1) ((g32 ((g32 (88 + (g32 (2 * (gI s3 (gR s3 217 1) 6))))) + 0)) : Int).toNat v4) 217 1) 6))))) + 1)) : Int).toNat 0) (gw (gw s3p (gR s3 217 1) ((g32 ((g32 (88 + (g32 (2 * (gI s3 (gR s3 217 1) 6))))) + 0)) : Int).toNat v4) (gR (gw s3 (gR s3 217 1) ((g32 ((g32 (88 + (g32 (2 * (gI s3 (gR s3 217 1) 6))))) + 0)) : Int).toNat v4) 217 1) ((g32 ((g32 (88 + (g32 (2 * (gI (gw s3 (gR s3 217 1) ((g32 ((g32 (88 + (g32 (2 * (gI s3 (gR s3 217 1) 6))))) + 0)) : Int).toNat v4) (gR (gw s3 (gR s3 217 1) ((g32 ((g32 (88 + (g32 (2 * (gI s3 (gR s3 217 1) 6))))) + 0)) : Int).toNat v4) 217 1) 6))))) + 1)) : Int).toNat 0) := (E_w hs236)
    try simp only [E_R hs237, E_i hs237, E_1 hs237, E_7 hs237, E_14 hs237]
    have hs238 : Eq8 (gw (gw (gw s3 (gR s3 217 1) ((g32 ((g32 (88 + (g32 (2 * (gI s3 (gR s3 217 1) 6))))) + 0)) : Int).toNat v4) (gR (gw s3 (gR s3 217 1) ((g32 ((g32 (88 + (g32 (2 * (gI s3 (gR s3 217 1) 6))))) + 0)) : Int).toNat v4) 217 1) ((g32 ((g32 (88 + (g32 (2 * (gI (gw s3 (gR s3 217 1) ((g32 ((g32 (88 + (g32 (2 * (gI s3 (gR s3 217 1) 6))))) + 0)) : Int).toNat v4) (gR (gw s3 (gR s3 217 1) ((g32 ((g32 (88 + (g32 (2 * (gI s3 (gR s3 217 1) 6))))) + 0)) : Int).toNat v4) 217 1) 6))))) + 1)) : Int).toNat 0) (gR (gw (gw s3 (gR s3 217 1) ((g32 ((g32 (88 + (g32 (2 * (gI s3 (gR s3 217 1) 6))))) + 0)) : Int).toNat v4) (gR (gw s3 (gR s3 217 1) ((g32 ((g32 (88 + (g32 (2 * (gI s3 (gR s3 217 1) 6))))) + 0)) : Int).toNat v4) 217 1) ((g32 ((g32 (88 + (g32 (2 * (gI (gw s3 (gR s3 217 1) ((g32 ((g32 (88 + (g32 (2 * (gI s3 (gR s3 217 1) 6))))) + 0)) : Int).toNat v4) (gR (gw s3 (gR s3 217 1) ((g32 ((g32 (88 + (g32 (2 * (gI s3 (gR s3 217 1) 6))))) + 0)) : Int).toNat v4) 217 1) 6))))) + 1)) : Int).toNat 0) 217 1) 6 (g32 ((gI (gw (gw s3 (gR s3 217 1) ((g32 ((g32 (88 + (g32 (2 * (gI s3 (gR s3 217 1) 6))))) + 0)) : Int).toNat v4) (gR (gw s3 (gR s3 217 1) ((g32 ((g32 (88 + (g32 (2 * (gI s3 (gR s3 217 1) 6))))) + 0)) : Int).toNat v4) 217 1) ((g32 ((g32 (88 + (g32 (2 * (gI (gw s3 (gR s3 217 1) ((g32 ((g32 (88 + (g32 (2 * (gI s3 (gR s3 217 1) 6))))) + 0)) : Int).toNat v4) (gR (gw s3 (gR s3 217 1) ((g32 ((g32 (88 + (g32 (2 * (gI s3 (gR s3 217 1) 6))))) + 0)) : Int).toNat v4) 217 1) 6))))) + 1)) : Int).toNat 0) (gR (gw (gw s3 (gR s3 217 1) ((g32 ((g32 (88 + (g32 (2 * (gI s3 (gR s3 217 1) 6))))) + 0)) : Int).toNat v4) (gR (gw s3 (gR s3 217 1) ((g32 ((g32 (88 + (g32 (2 * (gI s3 (gR s3 217 1) 6))))) + 0)) : Int).toNat v4) 217 1) ((g32 ((g32 (88 + (g32 (2 * (gI (gw s3 (gR s3 217 1) ((g32 ((g32 (88 + (g32 (2 * (gI s3 (gR s3 217 1) 6))))) + 0)) : Int).toNat v4) (gR (gw s3 (gR s3 217 1) ((g32 ((g32 (88 + (g32 (2 * (gI s3 (gR s3 217 1) 6))))) + 0)) : Int).toNat v4) 217 1) 6))))) + 1)) : Int).toNat 0) 217 1) 6) + 1))) (gw (gw (gw s3p (gR s3 217 1) ((g32 ((g32 (88 + (g32 (2 * (gI s3 (gR s3 217 1) 6))))) + 0)) : Int).toNat v4) (gR (gw s3 (gR s3 217 1) ((g32 ((g32 (88 + (g32 (2 * (gI s3 (gR s3 217 1) 6))))) + 0)) : Int).toNat v4) 217 1) ((g32 ((g32 (88 + (g32 (2 * (gI (gw s3 (gR s3 217 1) ((g32 ((g32 (88 + (g32 (2 * (gI s3 (gR s3 217 1) 6))))) + 0)) : Int).toNat v4) (gR (gw s3 (gR s3 217 1) ((g32 ((g32 (88 + (g32 (2 * (gI s3 (gR s3 217 1) 6))))) + 0)) : Int).toNat v4) 217 1) 6))))) + 1)) : Int).toNat 0) (gR (gw (gw s3 (gR s3 217 1) ((g32 ((g32 (88 + (g32 (2 * (gI s3 (gR s3 217 1) 6))))) + 0)) : Int).toNat v4) (gR (gw s3 (gR s3 217 1) ((g32 ((g32 (88 + (g32 (2 * (gI s3 (gR s3 217 1) 6))))) + 0)) : Int).toNat v4) 217 1) ((g32 ((g32 (88 + (g32 (2 * (gI (gw s3 (gR s3 217 1) ((g32 ((g32 (88 + (g32 (2 * (gI s3 (gR s3 217 1) 6))))) + 0)) : Int).toNat v4) (gR (gw s3 (gR s3 217 1) ((g32 ((g32 (88 + (g32 (2 * (gI s3 (gR s3 217 1) 6))))) + 0)) : Int).toNat v4) 217 1) 6))))) + 1)) : Int).toNat 0) 217 1) 6 (g32 ((gI (gw (gw s3 (gR s3 217 1) ((g32 ((g32 (88 + (g32 (2 * (gI s3 (gR s3 217 1) 6))))) + 0)) : Int).toNat v4) (gR (gw s3 (gR s3 217 1) ((g32 ((g32 (88 + (g32 (2 * (gI s3 (gR s3 217 1) 6))))) + 0)) : Int).toNat v4) 217 1) ((g32 ((g32 (88 + (g32 (2 * (gI (gw s3 (gR s3 217 1) ((g32 ((g32 (88 + (g32 (2 * (gI s3 (gR s3 217 1) 6))))) + 0)) : Int).toNat v4) (gR (gw s3 (gR s3 217 1) ((g32 ((g32 (88 + (g32 (2 * (gI s3 (gR s3 217 1) 6))))) + 0)) : Int).toNat v4) 217 1) 6))))) + 1)) : Int).toNat 0) (gR (gw (gw s3 (gR s3 217 1) ((g32 ((g32 (88 + (g32 (2 * (gI s3 (gR s3 217 1) 6))))) + 0)) : Int).toNat v4) (gR (gw s3 (gR s3 217 1) ((g32 ((g32 (88 + (g32 (2 * (gI s3 (gR s3 217 1) 6))))) + 0)) : Int).toNat v4) 217 1) ((g32 ((g32 (88 + (g32 (2 * (gI (gw s3 (gR s3 217 1) ((g32 ((g32 (88 + (g32 (2 * (gI s3 (gR s3 217 1) 6))))) + 0)) : Int).toNat v4) (gR (gw s3 (gR s3 217 1) ((g32 ((g32 (88 + (g32 (2 * (gI s3 (gR s3 217 1) 6))))) + 0)) : Int).toNat v4) 217 1) 6))))) + 1)) : Int).toNat 0) 217 1) 6) + 1))) := (E_w hs237)
    try simp only [E_R hs238, E_i hs238, E_1 hs238, E_7 hs238, E_14 hs238]
    refine gG_ite ?_ ?_
    · refine gG_chk ?_
      refine gG_chk ?_
      exact gG_ret ⟨rfl, rfl, rfl, hs238⟩
    · exact gG_ret ⟨rfl, rfl, rfl, h235⟩
  · unfold fb_180_17
    dsimp only
    try simp only [E_R h, E_i h, E_1 h, E_7 h, E_14 h]
    refine gG_v1 (n_174 h) (fun v4 s3 s3p h239 => ?_)
    try simp only [E_R h239, E_i h239, E_1 h239, E_7 h239, E_14 h239]
    have hs240 : Eq8 (gw s3 (gR s3 217 1) ((g32 ((g32 (88 + (g32 (2 * (gI s3 (gR s3 217 1) 6))))) + 0)) : Int).toNat v4) (gw s3p (gR s3 217 1) ((g32 ((g32 (88 + (g32 (2 * (gI s3 (gR s3 217 1) 6))))) + 0)) : Int).toNat v4) := (E_w h239)
    try simp only [E_R hs240, E_i hs240, E_1 hs240, E_7 hs240, E_14 hs240]
    have hs241 : Eq8 (gw (gw s3 (gR s3 217 1) ((g32 ((g32 (88 + (g32 (2 * (gI s3 (gR s3 217 1) 6))))) + 0)) : Int).toNat v4) (gR (gw s3 (gR s3 217 1) ((g32 ((g32 (88 + (g32 (2 * (gI s3 (gR s3 217 1) 6))))) + 0)) : Int).toNat v4) 217 1) ((g32 ((g32 (88 + (g32 (2 * (gI (gw s3 (gR s3 217 1) ((g32 ((g32 (88 + (g32 (2 * (gI s3 (gR s3 217 1) 6))))) + 0)) : Int).toNat v4) (gR (gw s3 (gR s3 217 1) ((g32 ((g32 (88 + (g32 (2 * (gI s3 (gR s3 217 1) 6))))) + 0)) : Int).toNat v4) 217 1) 6))))) + 1)) : Int).toNat 0) (gw (gw s3p (gR s3 217 1) ((g32 ((g32 (88 + (g32 (2 * (gI s3 (gR s3 217 1) 6))))) + 0)) : Int).toNat v4) (gR (gw s3 (gR s3 217 1) ((g32 ((g32 (88 + (g32 (2 * (gI s3 (gR s3 217 1) 6))))) + 0)) : Int).toNat v4) 217 1) ((g32 ((g32 (88 + (g32 (2 * (gI (gw s3 (gR s3 217 1) ((g32 ((g32 (88 + (g32 (2 * (gI s3 (gR s3 217 1) 6))))) + 0)) : Int).toNat v4) (gR (gw s3 (gR s3 217 1) ((g32 ((g32 (88 + (g32 (2 * (gI s3 (gR s3 217 1) 6))))) + 0)) : Int).toNat v4) 217 1) 6))))) + 1)) : Int).toNat 0) := (E_w hs240)
    try simp only [E_R hs241, E_i hs241, E_1 hs241, E_7 hs241, E_14 hs241]
    have hs242 : Eq8 (gw (gw (gw s3 (gR s3 217 1) ((g32 ((g32 (88 + (g32 (2 * (gI s3 (gR s3 217 1) 6))))) + 0)) : Int).toNat v4) (gR (gw s3 (gR s3 217 1) ((g32 ((g32 (88 + (g32 (2 * (gI s3 (gR s3 217 1) 6))))) + 0)) : Int).toNat v4) 217 1) ((g32 ((g32 (88 + (g32 (2 * (gI (gw s3 (gR s3 217 1) ((g32 ((g32 (88 + (g32 (2 * (gI s3 (gR s3 217 1) 6))))) + 0)) : Int).toNat v4) (gR (gw s3 (gR s3 217 1) ((g32 ((g32 (88 + (g32 (2 * (gI s3 (gR s3 217 1) 6))))) + 0)) : Int).toNat v4) 217 1) 6))))) + 1)) : Int).toNat 0) (gR (gw (gw s3 (gR s3 217 1) ((g32 ((g32 (88 + (g32 (2 * (gI s3 (gR s3 217 1) 6))))) + 0)) : Int).toNat v4) (gR (gw s3 (gR s3 217 1) ((g32 ((g32 (88 + (g32 (2 * (gI s3 (gR s3 217 1) 6))))) + 0)) : Int).toNat v4) 217 1) ((g32 ((g32 (88 + (g32 (2 * (gI (gw s3 (gR s3 217 1) ((g32 ((g32 (88 + (g32 (2 * (gI s3 (gR s3 217 1) 6))))) + 0)) : Int).toNat v4) (gR (gw s3 (gR s3 217 1) ((g32 ((g32 (88 + (g32 (2 * (gI s3 (gR s3 217 1) 6))))) + 0)) : Int).toNat v4) 217 1) 6))))) + 1)) : Int).toNat 0) 217 1) 6 (g32 ((gI (gw (gw s3 (gR s3 217 1) ((g32 ((g32 (88 + (g32 (2 * (gI s3 (gR s3 217 1) 6))))) + 0)) : Int).toNat v4) (gR (gw s3 (gR s3 217 1) ((g32 ((g32 (88 + (g32 (2 * (gI s3 (gR s3 217 1) 6))))) + 0)) : Int).toNat v4) 217 1) ((g32 ((g32 (88 + (g32 (2 * (gI (gw s3 (gR s3 217 1) ((g32 ((g32 (88 + (g32 (2 * (gI s3 (gR s3 217 1) 6))))) + 0)) : Int).toNat v4) (gR (gw s3 (gR s3 217 1) ((g32 ((g32 (88 + (g32 (2 * (gI s3 (gR s3 217 1) 6))))) + 0)) : Int).toNat v4) 217 1) 6))))) + 1)) : Int).toNat 0) (gR (gw (gw s3 (gR s3 217 1) ((g32 ((g32 (88 + (g32 (2 * (gI s3 (gR s3 217 1) 6))))) + 0)) : Int).toNat v4) (gR (gw s3 (gR s3 217 1) ((g32 ((g32 (88 + (g32 (2 * (gI s3 (gR s3 217 1) 6))))) + 0)) : Int).toNat v4) 217 1) ((g32 ((g32 (88 + (g32 (2 * (gI (gw s3 (gR s3 217 1) ((g32 ((g32 (88 + (g32 (2 * (gI s3 (gR s3 217 1) 6))))) + 0)) : Int).toNat v4) (gR (gw s3 (gR s3 217 1) ((g32 ((g32 (88 + (g32 (2 * (gI s3 (gR s3 217 1) 6))))) + 0)) : Int).toNat v4) 217 1) 6))))) + 1)) : Int).toNat 0) 217 1) 6) + 1))) (gw (gw (gw s3p (gR s3 217 1) ((g32 ((g32 (88 + (g32 (2 * (gI s3 (gR s3 217 1) 6))))) + 0)) : Int).toNat v4) (gR (gw s3 (gR s3 217 1) ((g32 ((g32 (88 + (g32 (2 * (gI s3 (gR s3 217 1) 6))))) + 0)) : Int).toNat v4) 217 1) ((g32 ((g32 (88 + (g32 (2 * (gI (gw s3 (gR s3 217 1) ((g32 ((g32 (88 + (g32 (2 * (gI s3 (gR s3 217 1) 6))))) + 0)) : Int).toNat v4) (gR (gw s3 (gR s3 217 1) ((g32 ((g32 (88 + (g32 (2 * (gI s3 (gR s3 217 1) 6))))) + 0)) : Int).toNat v4) 217 1) 6))))) + 1)) : Int).toNat 0) (gR (gw (gw s3 (gR s3 217 1) ((g32 ((g32 (88 + (g32 (2 * (gI s3 (gR s3 217 1) 6))))) + 0)) : Int).toNat v4) (gR (gw s3 (gR s3 217 1) ((g32 ((g32 (88 + (g32 (2 * (gI s3 (gR s3 217 1) 6))))) + 0)) : Int).toNat v4) 217 1) ((g32 ((g32 (88 + (g32 (2 * (gI (gw s3 (gR s3 217 1) ((g32 ((g32 (88 + (g32 (2 * (gI s3 (gR s3 217 1) 6))))) + 0)) : Int).toNat v4) (gR (gw s3 (gR s3 217 1) ((g32 ((g32 (88 + (g32 (2 * (gI s3 (gR s3 217 1) 6))))) + 0)) : Int).toNat v4) 217 1) 6))))) + 1)) : Int).toNat 0) 217 1) 6 (g32 ((gI (gw (gw s3 (gR s3 217 1) ((g32 ((g32 (88 + (g32 (2 * (gI s3 (gR s3 217 1) 6))))) + 0)) : Int).toNat v4) (gR (gw s3 (gR s3 217 1) ((g32 ((g32 (88 + (g32 (2 * (gI s3 (gR s3 217 1) 6))))) + 0)) : Int).toNat v4) 217 1) ((g32 ((g32 (88 + (g32 (2 * (gI (gw s3 (gR s3 217 1) ((g32 ((g32 (88 + (g32 (2 * (gI s3 (gR s3 217 1) 6))))) + 0)) : Int).toNat v4) (gR (gw s3 (gR s3 217 1) ((g32 ((g32 (88 + (g32 (2 * (gI s3 (gR s3 217 1) 6))))) + 0)) : Int).toNat v4) 217 1) 6))))) + 1)) : Int).toNat 0) (gR (gw (gw s3 (gR s3 217 1) ((g32 ((g32 (88 + (g32 (2 * (gI s3 (gR s3 217 1) 6))))) + 0)) : Int).toNat v4) (gR (gw s3 (gR s3 217 1) ((g32 ((g32 (88 + (g32 (2 * (gI s3 (gR s3 217 1) 6))))) + 0)) : Int).toNat v4) 217 1) ((g32 ((g32 (88 + (g32 (2 * (gI (gw s3 (gR s3 217 1) ((g32 ((g32 (88 + (g32 (2 * (gI s3 (gR s3 217 1) 6))))) + 0)) : Int).toNat v4) (gR (gw s3 (gR s3 217 1) ((g32 ((g32 (88 + (g32 (2 * (gI s3 (gR s3 217 1) 6))))) + 0)) : Int).toNat v4) 217 1) 6))))) + 1)) : Int).toNat 0) 217 1) 6) + 1))) := (E_w hs241)
    try simp only [E_R hs242, E_i hs242, E_1 hs242, E_7 hs242, E_14 hs242]
    refine gG_ite ?_ ?_
    · refine gG_chk ?_
      refine gG_chk ?_
      exact gG_ret ⟨rfl, rfl, rfl, hs242⟩
    · exact gG_ret ⟨rfl, rfl, rfl, h239⟩

theorem n_181  {a1 : Int} {a2 : Int} {s s' : gS}  (h : Eq8 s s') : gG PE (f_181 217 a1 a2 s) (f_181 217 a1 a2 s') := by
  unfold f_181
  dsimp only
  try simp only [E_R h, E_i h, E_1 h, E_7 h, E_14 h]
  refine gG_v1 (n_174 h) (fun v2 s1 s1p h243 => ?_)
  try simp only [E_R h243, E_i h243, E_1 h243, E_7 h243, E_14 h243]
  have hs244 : Eq8 (gw s1 (gR s1 217 1) (a1 : Int).toNat v2) (gw s1p (gR s1 217 1) (a1 : Int).toNat v2) := (E_w h243)
  try simp only [E_R hs244, E_i hs244, E_1 hs244, E_7 hs244, E_14 hs244]
  refine gG_ite ?_ ?_
  · refine gG_chk ?_
    exact gG_ret ⟨rfl, rfl, rfl, hs244⟩
  · exact gG_ret ⟨rfl, rfl, rfl, h243⟩

theorem n_182   {s s' : gS}  (h : Eq8 s s') : gG PE (f_182 217 s) (f_182 217 s') := by
  unfold f_182
  try simp only [E_R h, E_i h, E_1 h, E_7 h, E_14 h]
  refine gG_v1 (n_173 h) (fun v2 s1 s1p h245 => ?_)
  try simp only [E_R h245, E_i h245, E_1 h245, E_7 h245, E_14 h245]
  refine gG_v1 (n_171 h245) (fun v4 s3 s3p h246 => ?_)
  try simp only [E_R h246, E_i h246, E_1 h246, E_7 h246, E_14 h246]
  refine gG_ite ?_ ?_
  · refine gG_v1 (n_171 h246) (fun v7 s6 s6p h247 => ?_)
    try simp only [E_R h247, E_i h247, E_1 h247, E_7 h247, E_14 h247]
    refine gG_ite ?_ ?_
    · refine gG_v1 (n_171 h247) (fun v10 s9 s9p h248 => ?_)
      try simp only [E_R h248, E_i h248, E_1 h248, E_7 h248, E_14 h248]
      refine gG_ite ?_ ?_
      · refine gG_v1 (n_171 h248) (fun v13 s12 s12p h249 => ?_)
        try simp only [E_R h249, E_i h249, E_1 h249, E_7 h249, E_14 h249]
        refine gG_ite ?_ ?_
        · refine gG_v1 (n_171 h249) (fun v16 s15 s15p h250 => ?_)
          try simp only [E_R h250, E_i h250, E_1 h250, E_7 h250, E_14 h250]
          refine gG_ite ?_ ?_
          · refine gG_v1 (n_171 h250) (fun v19 s18 s18p h251 => ?_)
            try simp only [E_R h251, E_i h251, E_1 h251, E_7 h251, E_14 h251]
            refine gG_ite ?_ ?_
            · refine gG_v1 (n_171 h251) (fun v22 s21 s21p h252 => ?_)
              try simp only [E_R h252, E_i h252, E_1 h252, E_7 h252, E_14 h252]
              refine gG_ite ?_ ?_
              · refine gG_v1 (n_171 h252) (fun v25 s24 s24p h253 => ?_)
                try simp only [E_R h253, E_i h253, E_1 h253, E_7 h253, E_14 h253]
                refine gG_ite ?_ ?_
                · refine gG_v0 (n_172 h253) (fun s27 s27p h254 => ?_)
                  try simp only [E_R h254, E_i h254, E_1 h254, E_7 h254, E_14 h254]
                  exact gG_ret ⟨rfl, rfl, rfl, h254⟩
                · refine gG_v0 (n_181 h253) (fun s29 s29p h255 => ?_)
                  try simp only [E_R h255, E_i h255, E_1 h255, E_7 h255, E_14 h255]
                  exact gG_ret ⟨rfl, rfl, rfl, h255⟩
              · refine gG_v0 (n_181 h252) (fun s31 s31p h256 => ?_)
                try simp only [E_R h256, E_i h256, E_1 h256, E_7 h256, E_14 h256]
                exact gG_ret ⟨rfl, rfl, rfl, h256⟩
            · refine gG_v0 (n_181 h251) (fun s33 s33p h257 => ?_)
              try simp only [E_R h257, E_i h257, E_1 h257, E_7 h257, E_14 h257]
              exact gG_ret ⟨rfl, rfl, rfl, h257⟩
          · refine gG_v0 (n_181 h250) (fun s35 s35p h258 => ?_)
            try simp only [E_R h258, E_i h258, E_1 h258, E_7 h258, E_14 h258]
            exact gG_ret ⟨rfl, rfl, rfl, h258⟩
        · refine gG_v0 (n_180 h249) (fun s37 s37p h259 => ?_)
          try simp only [E_R h259, E_i h259, E_1 h259, E_7 h259, E_14 h259]
          exact gG_ret ⟨rfl, rfl, rfl, h259⟩
      · refine gG_v0 (n_179 h248) (fun s39 s39p h260 => ?_)
        try simp only [E_R h260, E_i h260, E_1 h260, E_7 h260, E_14 h260]
        exact gG_ret ⟨rfl, rfl, rfl, h260⟩
    · refine gG_v0 (n_178 h247) (fun s41 s41p h261 => ?_)
      try simp only [E_R h261, E_i h261, E_1 h261, E_7 h261, E_14 h261]
      exact gG_ret ⟨rfl, rfl, rfl, h261⟩
  · refine gG_v0 (n_177 h246) (fun s43 s43p h262 => ?_)
    try simp only [E_R h262, E_i h262, E_1 h262, E_7 h262, E_14 h262]
    exact gG_ret ⟨rfl, rfl, rfl, h262⟩

theorem n_188   {s s' : gS}  (h : Eq8 s s') : gG PE (f_188 217 s) (f_188 217 s') := by
  unfold f_188
  try simp only [E_R h, E_i h, E_1 h, E_7 h, E_14 h]
  refine gG_ite ?_ ?_
  · refine gG_v0 (n_169 h) (fun s1 s1p h263 => ?_)
    try simp only [E_R h263, E_i h263, E_1 h263, E_7 h263, E_14 h263]
    refine gG_ite ?_ ?_
    · refine gG_v1 (n_168 h263) (fun v4 s3 s3p h264 => ?_)
      try simp only [E_R h264, E_i h264, E_1 h264, E_7 h264, E_14 h264]
      refine gG_v1 (n_150 h264) (fun v6 s5 s5p h265 => ?_)
      try simp only [E_R h265, E_i h265, E_1 h265, E_7 h265, E_14 h265]
      refine gG_ite ?_ ?_
      · unfold fb_188_52
        try simp only [E_R h265, E_i h265, E_1 h265, E_7 h265, E_14 h265]
        refine gG_v1 (n_171 h265) (fun v9 s8 s8p h266 => ?_)
        try simp only [E_R h266, E_i h266, E_1 h266, E_7 h266, E_14 h266]
        refine gG_ite ?_ ?_
        · refine gG_v1 (n_171 h266) (fun v12 s11 s11p h267 => ?_)
          try simp only [E_R h267, E_i h267, E_1 h267, E_7 h267, E_14 h267]
          refine gG_ite ?_ ?_
          · refine gG_v1 (n_171 h267) (fun v15 s14 s14p h268 => ?_)
            try simp only [E_R h268, E_i h268, E_1 h268, E_7 h268, E_14 h268]
            refine gG_ite ?_ ?_
            · refine gG_v1 (n_171 h268) (fun v18 s17 s17p h269 => ?_)
              try simp only [E_R h269, E_i h269, E_1 h269, E_7 h269, E_14 h269]
              refine gG_ite ?_ ?_
              · refine gG_v1 (n_171 h269) (fun v21 s20 s20p h270 => ?_)
                try simp only [E_R h270, E_i h270, E_1 h270, E_7 h270, E_14 h270]
                refine gG_ite ?_ ?_
                · refine gG_v1 (n_171 h270) (fun v24 s23 s23p h271 => ?_)
                  try simp only [E_R h271, E_i h271, E_1 h271, E_7 h271, E_14 h271]
                  refine gG_ite ?_ ?_
                  · refine gG_v1 (n_171 h271) (fun v27 s26 s26p h272 => ?_)
                    try simp only [E_R h272, E_i h272, E_1 h272, E_7 h272, E_14 h272]
                    refine gG_ite ?_ ?_
                    · unfold fb_188_145
                      try simp only [E_R h272, E_i h272, E_1 h272, E_7 h272, E_14 h272]
                      refine gG_ite ?_ ?_
                      · refine gG_v0 (n_172 h272) (fun s29 s29p h273 => ?_)
                        try simp only [E_R h273, E_i h273, E_1 h273, E_7 h273, E_14 h273]
                        exact gG_ret ⟨rfl, rfl, rfl, h273⟩
                      · refine gG_chk ?_
                        exact gG_ret ⟨rfl, rfl, rfl, h272⟩
                    · unfold fb_188_145
                      try simp only [E_R h272, E_i h272, E_1 h272, E_7 h272, E_14 h272]
                      refine gG_ite ?_ ?_
                      · refine gG_v0 (n_172 h272) (fun s29 s29p h274 => ?_)
                        try simp only [E_R h274, E_i h274, E_1 h274, E_7 h274, E_14 h274]
                        exact gG_ret ⟨rfl, rfl, rfl, h274⟩
                      · refine gG_chk ?_
                        exact gG_ret ⟨rfl, rfl, rfl, h272⟩
                  · unfold fb_188_145
                    try simp only [E_R h271, E_i h271, E_1 h271, E_7 h271, E_14 h271]
                    refine gG_ite ?_ ?_
                    · refine gG_v0 (n_172 h271) (fun s29 s29p h275 => ?_)
                      try simp only [E_R h275, E_i h275, E_1 h275, E_7 h275, E_14 h275]
                      exact gG_ret ⟨rfl, rfl, rfl, h275⟩
                    · refine gG_chk ?_
                      exact gG_ret ⟨rfl, rfl, rfl, h271⟩
                · unfold fb_188_145
                  try simp only [E_R h270, E_i h270, E_1 h270, E_7 h270, E_14 h270]
                  refine gG_ite ?_ ?_
                  · refine gG_v0 (n_172 h270) (fun s29 s29p h276 => ?_)
                    try simp only [E_R h276, E_i h276, E_1 h276, E_7 h276, E_14 h276]
                    exact gG_ret ⟨rfl, rfl, rfl, h276⟩
                  · refine gG_chk ?_
                    exact gG_ret ⟨rfl, rfl, rfl, h270⟩
              · unfold fb_188_145
                try simp only [E_R h269, E_i h269, E_1 h269, E_7 h269, E_14 h269]
                refine gG_ite ?_ ?_
                · refine gG_v0 (n_172 h269) (fun s29 s29p h277 => ?_)
                  try simp only [E_R h277, E_i h277, E_1 h277, E_7 h277, E_14 h277]
                  exact gG_ret ⟨rfl, rfl, rfl, h277⟩
                · refine gG_chk ?_
                  exact gG_ret ⟨rfl, rfl, rfl, h269⟩
            · unfold fb_188_145
              try simp only [E_R h268, E_i h268, E_1 h268, E_7 h268, E_14 h268]
              refine gG_ite ?_ ?_
              · refine gG_v0 (n_172 h268) (fun s29 s29p h278 => ?_)
                try simp only [E_R h278, E_i h278, E_1 h278, E_7 h278, E_14 h278]
                exact gG_ret ⟨rfl, rfl, rfl, h278⟩
              · refine gG_chk ?_
                exact gG_ret ⟨rfl, rfl, rfl, h268⟩
          · unfold fb_188_145
            try simp only [E_R h267, E_i h267, E_1 h267, E_7 h267, E_14 h267]
            refine gG_ite ?_ ?_
            · refine gG_v0 (n_172 h267) (fun s29 s29p h279 => ?_)
              try simp only [E_R h279, E_i h279, E_1 h279, E_7 h279, E_14 h279]
              exact gG_ret ⟨rfl, rfl, rfl, h279⟩
            · refine gG_chk ?_
              exact gG_ret ⟨rfl, rfl, rfl, h267⟩
        · unfold fb_188_145
          try simp only [E_R h266, E_i h266, E_1 h266, E_7 h266, E_14 h266]
          refine gG_ite ?_ ?_
          · refine gG_v0 (n_172 h266) (fun s29 s29p h280 => ?_)
            try simp only [E_R h280, E_i h280, E_1 h280, E_7 h280, E_14 h280]
            exact gG_ret ⟨rfl, rfl, rfl, h280⟩
          · refine gG_chk ?_
            exact gG_ret ⟨rfl, rfl, rfl, h266⟩
      · refine gG_v1 (n_174 h265) (fun v32 s31 s31p h281 => ?_)
        try simp only [E_R h281, E_i h281, E_1 h281, E_7 h281, E_14 h281]
        exact gG_ret ⟨rfl, rfl, rfl, h281⟩
    · unfold fb_188_52
      try simp only [E_R h263, E_i h263, E_1 h263, E_7 h263, E_14 h263]
      refine gG_v1 (n_171 h263) (fun v9 s8 s8p h282 => ?_)
      try simp only [E_R h282, E_i h282, E_1 h282, E_7 h282, E_14 h282]
      refine gG_ite ?_ ?_
      · refine gG_v1 (n_171 h282) (fun v12 s11 s11p h283 => ?_)
        try simp only [E_R h283, E_i h283, E_1 h283, E_7 h283, E_14 h283]
        refine gG_ite ?_ ?_
        · refine gG_v1 (n_171 h283) (fun v15 s14 s14p h284 => ?_)
          try simp only [E_R h284, E_i h284, E_1 h284, E_7 h284, E_14 h284]
          refine gG_ite ?_ ?_
          · refine gG_v1 (n_171 h284) (fun v18 s17 s17p h285 => ?_)
            try simp only [E_R h285, E_i h285, E_1 h285, E_7 h285, E_14 h285]
            refine gG_ite ?_ ?_
            · refine gG_v1 (n_171 h285) (fun v21 s20 s20p h286 => ?_)
              try simp only [E_R h286, E_i h286, E_1 h286, E_7 h286, E_14 h286]
              refine gG_ite ?_ ?_
              · refine gG_v1 (n_171 h286) (fun v24 s23 s23p h287 => ?_)
                try simp only [E_R h287, E_i h287, E_1 h287, E_7 h287, E_14 h287]
                refine gG_ite ?_ ?_
                · refine gG_v1 (n_171 h287) (fun v27 s26 s26p h288 => ?_)
                  try simp only [E_R h288, E_i h288, E_1 h288, E_7 h288, E_14 h288]
                  refine gG_ite ?_ ?_
                  · unfold fb_188_145
                    try simp only [E_R h288, E_i h288, E_1 h288, E_7 h288, E_14 h288]
                    refine gG_ite ?_ ?_
                    · refine gG_v0 (n_172 h288) (fun s29 s29p h289 => ?_)
                      try simp only [E_R h289, E_i h289, E_1 h289, E_7 h289, E_14 h289]
                      exact gG_ret ⟨rfl, rfl, rfl, h289⟩
                    · refine gG_chk ?_
                      exact gG_ret ⟨rfl, rfl, rfl, h288⟩
                  · unfold fb_188_145
                    try simp only [E_R h288, E_i h288, E_1 h288, E_7 h288, E_14 h288]
                    refine gG_ite ?_ ?_
                    · refine gG_v0 (n_172 h288) (fun s29 s29p h290 => ?_)
                      try simp only [E_R h290, E_i h290, E_1 h290, E_7 h290, E_14 h290]
                      exact gG_ret ⟨rfl, rfl, rfl, h290⟩
                    · refine gG_chk ?_
                      exact gG_ret ⟨rfl, rfl, rfl, h288⟩
                · unfold fb_188_145
                  try simp only [E_R h287, E_i h287, E_1 h287, E_7 h287, E_14 h287]
                  refine gG_ite ?_ ?_
                  · refine gG_v0 (n_172 h287) (fun s29 s29p h291 => ?_)
                    try simp only [E_R h291, E_i h291, E_1 h291, E_7 h291, E_14 h291]
                    exact gG_ret ⟨rfl, rfl, rfl, h291⟩
                  · refine gG_chk ?_
                    exact gG_ret ⟨rfl, rfl, rfl, h287⟩
              · unfold fb_188_145
                try simp only [E_R h286, E_i h286, E_1 h286, E_7 h286, E_14 h286]
                refine gG_ite ?_ ?_
                · refine gG_v0 (n_172 h286) (fun s29 s29p h292 => ?_)
                  try simp only [E_R h292, E_i h292, E_1 h292, E_7 h292, E_14 h292]
                  exact gG_ret ⟨rfl, rfl, rfl, h292⟩
                · refine gG_chk ?_
                  exact gG_ret ⟨rfl, rfl, rfl, h286⟩
            · unfold fb_188_145
              try simp only [E_R h285, E_i h285, E_1 h285, E_7 h285, E_14 h285]
              refine gG_ite ?_ ?_
              · refine gG_v0 (n_172 h285) (fun s29 s29p h293 => ?_)
                try simp only [E_R h293, E_i h293, E_1 h293, E_7 h293, E_14 h293]
                exact gG_ret ⟨rfl, rfl, rfl, h293⟩
              · refine gG_chk ?_
                exact gG_ret ⟨rfl, rfl, rfl, h285⟩
          · unfold fb_188_145
            try simp only [E_R h284, E_i h284, E_1 h284, E_7 h284, E_14 h284]
            refine gG_ite ?_ ?_
            · refine gG_v0 (n_172 h284) (fun s29 s29p h294 => ?_)
              try simp only [E_R h294, E_i h294, E_1 h294, E_7 h294, E_14 h294]
              exact gG_ret ⟨rfl, rfl, rfl, h294⟩
            · refine gG_chk ?_
              exact gG_ret ⟨rfl, rfl, rfl, h284⟩
        · unfold fb_188_145
          try simp only [E_R h283, E_i h283, E_1 h283, E_7 h283, E_14 h283]
          refine gG_ite ?_ ?_
          · refine gG_v0 (n_172 h283) (fun s29 s29p h295 => ?_)
            try simp only [E_R h295, E_i h295, E_1 h295, E_7 h295, E_14 h295]
            exact gG_ret ⟨rfl, rfl, rfl, h295⟩
          · refine gG_chk ?_
            exact gG_ret ⟨rfl, rfl, rfl, h283⟩
      · unfold fb_188_145
        try simp only [E_R h282, E_i h282, E_1 h282, E_7 h282, E_14 h282]
        refine gG_ite ?_ ?_
        · refine gG_v0 (n_172 h282) (fun s29 s29p h296 => ?_)
          try simp only [E_R h296, E_i h296, E_1 h296, E_7 h296, E_14 h296]
          exact gG_ret ⟨rfl, rfl, rfl, h296⟩
        · refine gG_chk ?_
          exact gG_ret ⟨rfl, rfl, rfl, h282⟩
  · exact gG_ret ⟨rfl, rfl, rfl, h⟩

theorem n_189   {s s' : gS}  (h : Eq8 s s') : gG PE (f_189 217 s) (f_189 217 s') := by
  unfold f_189
  try simp only [E_R h, E_i h, E_1 h, E_7 h, E_14 h]
  refine gG_v1 (n_188 h) (fun v2 s1 s1p h297 => ?_)
  try simp only [E_R h297, E_i h297, E_1 h297, E_7 h297, E_14 h297]
  refine gG_loop (fun y y' => y.1 = 217 ∧ y.1 = y'.1 ∧ y.2.1 = y'.2.1 ∧ Eq8 y.2.2 y'.2.2) (fun y y' hy => ?_) ⟨rfl, rfl, rfl, h297⟩
  obtain ⟨x0, x1, u300⟩ := y
  obtain ⟨z298, z299, u300p⟩ := y'
  obtain ⟨e304, e301, e302, h303⟩ := hy
  dsimp only at e304 e301 e302 h303
  subst e301 e302 e304
  show gG _ (sb_189_5 217 x1 u300) (sb_189_5 217 x1 u300p)
  unfold sb_189_5
  dsimp only
  try simp only [E_R h303, E_i h303, E_1 h303, E_7 h303, E_14 h303]
  refine gG_ite ?_ ?_
  · refine gG_v1 (n_170 h303) (fun v4 s3 s3p h305 => ?_)
    try simp only [E_R h305, E_i h305, E_1 h305, E_7 h305, E_14 h305]
    have hs306 : Eq8 (gw s3 217 11 (g32 ((gI s3 217 11) + 1))) (gw s3p 217 11 (g32 ((gI s3 217 11) + 1))) := (E_w h305)
    try simp only [E_R hs306, E_i hs306, E_1 hs306, E_7 hs306, E_14 hs306]
    refine gG_ite ?_ ?_
    · refine gG_map ?_
      exact gG_ret ⟨rfl, rfl, rfl, h305⟩
    · refine gG_v1 (n_188 hs306) (fun v8 s7 s7p h307 => ?_)
      try simp only [E_R h307, E_i h307, E_1 h307, E_7 h307, E_14 h307]
      exact gG_ret ⟨rfl, rfl, rfl, h307⟩
  · refine gG_map ?_
    exact gG_ret ⟨rfl, rfl, rfl, h303⟩

theorem n_190   {s s' : gS}  (h : Eq8 s s') : gG PE (f_190 217 s) (f_190 217 s') := by
  unfold f_190
  try simp only [E_R h, E_i h, E_1 h, E_7 h, E_14 h]
  refine gG_v1 (n_171 h) (fun v2 s1 s1p h308 => ?_)
  try simp only [E_R h308, E_i h308, E_1 h308, E_7 h308, E_14 h308]
  refine gG_ite ?_ ?_
  · refine gG_v1 (n_171 h308) (fun v5 s4 s4p h309 => ?_)
    try simp only [E_R h309, E_i h309, E_1 h309, E_7 h309, E_14 h309]
    refine gG_ite ?_ ?_
    · refine gG_v1 (n_189 h309) (fun v8 s7 s7p h310 => ?_)
      try simp only [E_R h310, E_i h310, E_1 h310, E_7 h310, E_14 h310]
      refine gG_ite ?_ ?_
      · refine gG_v1 (n_170 h310) (fun v10 s9 s9p h311 => ?_)
        try simp only [E_R h311, E_i h311, E_1 h311, E_7 h311, E_14 h311]
        refine gG_ite ?_ ?_
        · refine gG_v1 (n_170 h311) (fun v13 s12 s12p h312 => ?_)
          try simp only [E_R h312, E_i h312, E_1 h312, E_7 h312, E_14 h312]
          refine gG_ite ?_ ?_
          · refine gG_v0 (n_172 h312) (fun s15 s15p h313 => ?_)
            try simp only [E_R h313, E_i h313, E_1 h313, E_7 h313, E_14 h313]
            exact gG_ret ⟨rfl, rfl, rfl, h313⟩
          · unfold fb_190_73
            dsimp only
            try simp only [E_R h312, E_i h312, E_1 h312, E_7 h312, E_14 h312]
            have hs314 : Eq8 (gw s12 217 11 (g32 ((gI s12 217 11) + 1))) (gw s12p 217 11 (g32 ((gI s12 217 11) + 1))) := (E_w h312)
            try simp only [E_R hs314, E_i hs314, E_1 hs314, E_7 hs314, E_14 hs314]
            refine gG_v1 (n_189 hs314) (fun v19 s18 s18p h315 => ?_)
            try simp only [E_R h315, E_i h315, E_1 h315, E_7 h315, E_14 h315]
            refine gG_ite ?_ ?_
            · refine gG_ite ?_ ?_
              · exact gG_ret ⟨rfl, rfl, rfl, h315⟩
              · exact gG_ret ⟨rfl, rfl, rfl, h315⟩
            · refine gG_ite ?_ ?_
              · exact gG_ret ⟨rfl, rfl, rfl, h315⟩
              · exact gG_ret ⟨rfl, rfl, rfl, h315⟩
        · unfold fb_190_73
          dsimp only
          try simp only [E_R h311, E_i h311, E_1 h311, E_7 h311, E_14 h311]
          have hs316 : Eq8 (gw s9 217 11 (g32 ((gI s9 217 11) + 1))) (gw s9p 217 11 (g32 ((gI s9 217 11) + 1))) := (E_w h311)
          try simp only [E_R hs316, E_i hs316, E_1 hs316, E_7 hs316, E_14 hs316]
          refine gG_v1 (n_189 hs316) (fun v19 s18 s18p h317 => ?_)
          try simp only [E_R h317, E_i h317, E_1 h317, E_7 h317, E_14 h317]
          refine gG_ite ?_ ?_
          · refine gG_ite ?_ ?_
            · exact gG_ret ⟨rfl, rfl, rfl, h317⟩
            · exact gG_ret ⟨rfl, rfl, rfl, h317⟩
          · refine gG_ite ?_ ?_
            · exact gG_ret ⟨rfl, rfl, rfl, h317⟩
            · exact gG_ret ⟨rfl, rfl, rfl, h317⟩
      · exact gG_ret ⟨rfl, rfl, rfl, h310⟩
    · refine gG_bool ?_
      exact gG_ret ⟨rfl, rfl, rfl, h309⟩
  · refine gG_bool ?_
    exact gG_ret ⟨rfl, rfl, rfl, h308⟩

theorem n_fo_191 {r_191 : Nat → gS → Option gO} {r_193 : Nat → gS → Option gO}  {s s' : gS} (hr_191 : ∀ {s s' : gS}, Eq8 s s' → gG PE (r_191 217 s) (r_191 217 s')) (hr_193 : ∀ {s s' : gS}, Eq8 s s' → gG PE (r_193 217 s) (r_193 217 s')) (h : Eq8 s s') : gG PE (fo_191 r_191 r_193 217 s) (fo_191 r_191 r_193 217 s') := by
  unfold fo_191
  try simp only [E_R h, E_i h, E_1 h, E_7 h, E_14 h]
  refine gG_ite ?_ ?_
  · refine gG_v1 (n_173 h) (fun v2 s1 s1p h318 => ?_)
    try simp only [E_R h318, E_i h318, E_1 h318, E_7 h318, E_14 h318]
    refine gG_v1 (n_171 h318) (fun v4 s3 s3p h319 => ?_)
    try simp only [E_R h319, E_i h319, E_1 h319, E_7 h319, E_14 h319]
    refine gG_ite ?_ ?_
    · refine gG_v1 (n_170 h319) (fun v7 s6 s6p h320 => ?_)
      try simp only [E_R h320, E_i h320, E_1 h320, E_7 h320, E_14 h320]
      refine gG_ite ?_ ?_
      · refine gG_v1 (n_190 h320) (fun v10 s9 s9p h321 => ?_)
        try simp only [E_R h321, E_i h321, E_1 h321, E_7 h321, E_14 h321]
        exact gG_ret ⟨rfl, rfl, rfl, h321⟩
      · unfold fb_191_40
        dsimp only
        try simp only [E_R h320, E_i h320, E_1 h320, E_7 h320, E_14 h320]
        have hs322 : Eq8 (gw s6 217 13 (g32 ((gI s6 217 13) + 1))) (gw s6p 217 13 (g32 ((gI s6 217 13) + 1))) := (E_w h320)
        try simp only [E_R hs322, E_i hs322, E_1 hs322, E_7 hs322, E_14 hs322]
        have hs323 : Eq8 (gw (gw s6 217 13 (g32 ((gI s6 217 13) + 1))) 217 11 (g32 ((gI (gw s6 217 13 (g32 ((gI s6 217 13) + 1))) 217 11) + 1))) (gw (gw s6p 217 13 (g32 ((gI s6 217 13) + 1))) 217 11 (g32 ((gI (gw s6 217 13 (g32 ((gI s6 217 13) + 1))) 217 11) + 1))) := (E_w hs322)
        try simp only [E_R hs323, E_i hs323, E_1 hs323, E_7 hs323, E_14 hs323]
        refine gG_ite ?_ ?_
        · refine gG_v0 (n_172 h320) (fun s12 s12p h324 => ?_)
          try simp only [E_R h324, E_i h324, E_1 h324, E_7 h324, E_14 h324]
          exact gG_ret ⟨rfl, rfl, rfl, h324⟩
        · refine gG_ite ?_ ?_
          · refine gG_v1 (hr_193 hs323) (fun v17 s16 s16p h325 => ?_)
            try simp only [E_R h325, E_i h325, E_1 h325, E_7 h325, E_14 h325]
            refine gG_ite ?_ ?_
            · refine gG_v1 (n_170 h325) (fun v20 s19 s19p h326 => ?_)
              try simp only [E_R h326, E_i h326, E_1 h326, E_7 h326, E_14 h326]
              refine gG_ite ?_ ?_
              · refine gG_v0 (n_172 h326) (fun s22 s22p h327 => ?_)
                try simp only [E_R h327, E_i h327, E_1 h327, E_7 h327, E_14 h327]
                unfold fb_191_128
                dsimp only
                try simp only [E_R h327, E_i h327, E_1 h327, E_7 h327, E_14 h327]
                have hs328 : Eq8 (gw s22 217 11 (g32 ((gI s22 217 11) + 1))) (gw s22p 217 11 (g32 ((gI s22 217 11) + 1))) := (E_w h327)
                try simp only [E_R hs328, E_i hs328, E_1 hs328, E_7 hs328, E_14 hs328]
                unfold fb_191_138
                dsimp only
                try simp only [E_R h327, E_i h327, E_1 h327, E_7 h327, E_14 h327]
                try simp only [E_R hs328, E_i hs328, E_1 hs328, E_7 hs328, E_14 hs328]
                have hs329 : Eq8 (gw (gw s22 217 11 (g32 ((gI s22 217 11) + 1))) 217 13 (g32 ((gI (gw s22 217 11 (g32 ((gI s22 217 11) + 1))) 217 13) - 1))) (gw (gw s22p 217 11 (g32 ((gI s22 217 11) + 1))) 217 13 (g32 ((gI (gw s22 217 11 (g32 ((gI s22 217 11) + 1))) 217 13) - 1))) := (E_w hs328)
                try simp only [E_R hs329, E_i hs329, E_1 hs329, E_7 hs329, E_14 hs329]
                refine gG_bool ?_
                exact gG_ret ⟨rfl, rfl, rfl, hs329⟩
              · unfold fb_191_128
                dsimp only
                try simp only [E_R h326, E_i h326, E_1 h326, E_7 h326, E_14 h326]
                have hs330 : Eq8 (gw s19 217 11 (g32 ((gI s19 217 11) + 1))) (gw s19p 217 11 (g32 ((gI s19 217 11) + 1))) := (E_w h326)
                try simp only [E_R hs330, E_i hs330, E_1 hs330, E_7 hs330, E_14 hs330]
                unfold fb_191_138
                dsimp only
                try simp only [E_R h326, E_i h326, E_1 h326, E_7 h326, E_14 h326]
                try simp only [E_R hs330, E_i hs330, E_1 hs330, E_7 hs330, E_14 hs330]
                have hs331 : Eq8 (gw (gw s19 217 11 (g32 ((gI s19 217 11) + 1))) 217 13 (g32 ((gI (gw s19 217 11 (g32 ((gI s19 217 11) + 1))) 217 13) - 1))) (gw (gw s19p 217 11 (g32 ((gI s19 217 11) + 1))) 217 13 (g32 ((gI (gw s19 217 11 (g32 ((gI s19 217 11) + 1))) 217 13) - 1))) := (E_w hs330)
                try simp only [E_R hs331, E_i hs331, E_1 hs331, E_7 hs331, E_14 hs331]
                refine gG_bool ?_
                exact gG_ret ⟨rfl, rfl, rfl, hs331⟩
            · unfold fb_191_128
              dsimp only
              try simp only [E_R h325, E_i h325, E_1 h325, E_7 h325, E_14 h325]
              have hs332 : Eq8 (gw s16 217 11 (g32 ((gI s16 217 11) + 1))) (gw s16p 217 11 (g32 ((gI s16 217 11) + 1))) := (E_w h325)
              try simp only [E_R hs332, E_i hs332, E_1 hs332, E_7 hs332, E_14 hs332]
              unfold fb_191_138
              dsimp only
              try simp only [E_R h325, E_i h325, E_1 h325, E_7 h325, E_14 h325]
              try simp only [E_R hs332, E_i hs332, E_1 hs332, E_7 hs332, E_14 hs332]
              have hs333 : Eq8 (gw (gw s16 217 11 (g32 ((gI s16 217 11) + 1))) 217 13 (g32 ((gI (gw s16 217 11 (g32 ((gI s16 217 11) + 1))) 217 13) - 1))) (gw (gw s16p 217 11 (g32 ((gI s16 217 11) + 1))) 217 13 (g32 ((gI (gw s16 217 11 (g32 ((gI s16 217 11) + 1))) 217 13) - 1))) := (E_w hs332)
              try simp only [E_R hs333, E_i hs333, E_1 hs333, E_7 hs333, E_14 hs333]
              refine gG_bool ?_
              exact gG_ret ⟨rfl, rfl, rfl, hs333⟩
          · refine gG_v1 (hr_191 hs322) (fun v27 s26 s26p h334 => ?_)
            try simp only [E_R h334, E_i h334, E_1 h334, E_7 h334, E_14 h334]
            refine gG_ite ?_ ?_
            · unfold fb_191_138
              dsimp only
              try simp only [E_R h334, E_i h334, E_1 h334, E_7 h334, E_14 h334]
              have hs335 : Eq8 (gw s26 217 13 (g32 ((gI s26 217 13) - 1))) (gw s26p 217 13 (g32 ((gI s26 217 13) - 1))) := (E_w h334)
              try simp only [E_R hs335, E_i hs335, E_1 hs335, E_7 hs335, E_14 hs335]
              refine gG_bool ?_
              exact gG_ret ⟨rfl, rfl, rfl, hs335⟩
            · unfold fb_191_138
              dsimp only
              try simp only [E_R h334, E_i h334, E_1 h334, E_7 h334, E_14 h334]
              have hs336 : Eq8 (gw s26 217 13 (g32 ((gI s26 217 13) - 1))) (gw s26p 217 13 (g32 ((gI s26 217 13) - 1))) := (E_w h334)
              try simp only [E_R hs336, E_i hs336, E_1 hs336, E_7 hs336, E_14 hs336]
              refine gG_bool ?_
              exact gG_ret ⟨rfl, rfl, rfl, hs336⟩
    · unfold fb_191_40
      dsimp only
      try simp only [E_R h319, E_i h319, E_1 h319, E_7 h319, E_14 h319]
      have hs337 : Eq8 (gw s3 217 13 (g32 ((gI s3 217 13) + 1))) (gw s3p 217 13 (g32 ((gI s3 217 13) + 1))) := (E_w h319)
      try simp only [E_R hs337, E_i hs337, E_1 hs337, E_7 hs337, E_14 hs337]
      have hs338 : Eq8 (gw (gw s3 217 13 (g32 ((gI s3 217 13) + 1))) 217 11 (g32 ((gI (gw s3 217 13 (g32 ((gI s3 217 13) + 1))) 217 11) + 1))) (gw (gw s3p 217 13 (g32 ((gI s3 217 13) + 1))) 217 11 (g32 ((gI (gw s3 217 13 (g32 ((gI s3 217 13) + 1))) 217 11) + 1))) := (E_w hs337)
      try simp only [E_R hs338, E_i hs338, E_1 hs338, E_7 hs338, E_14 hs338]
      refine gG_ite ?_ ?_
      · refine gG_v0 (n_172 h319) (fun s12 s12p h339 => ?_)
        try simp only [E_R h339, E_i h339, E_1 h339, E_7 h339, E_14 h339]
        exact gG_ret ⟨rfl, rfl, rfl, h339⟩
      · refine gG_ite ?_ ?_
        · refine gG_v1 (hr_193 hs338) (fun v17 s16 s16p h340 => ?_)
          try simp only [E_R h340, E_i h340, E_1 h340, E_7 h340, E_14 h340]
          refine gG_ite ?_ ?_
          · refine gG_v1 (n_170 h340) (fun v20 s19 s19p h341 => ?_)
            try simp only [E_R h341, E_i h341, E_1 h341, E_7 h341, E_14 h341]
            refine gG_ite ?_ ?_
            · refine gG_v0 (n_172 h341) (fun s22 s22p h342 => ?_)
              try simp only [E_R h342, E_i h342, E_1 h342, E_7 h342, E_14 h342]
              unfold fb_191_128
              dsimp only
              try simp only [E_R h342, E_i h342, E_1 h342, E_7 h342, E_14 h342]
              have hs343 : Eq8 (gw s22 217 11 (g32 ((gI s22 217 11) + 1))) (gw s22p 217 11 (g32 ((gI s22 217 11) + 1))) := (E_w h342)
              try simp only [E_R hs343, E_i hs343, E_1 hs343, E_7 hs343, E_14 hs343]
              unfold fb_191_138
              dsimp only
              try simp only [E_R h342, E_i h342, E_1 h342, E_7 h342, E_14 h342]
              try simp only [E_R hs343, E_i hs343, E_1 hs343, E_7 hs343, E_14 hs343]
              have hs344 : Eq8 (gw (gw s22 217 11 (g32 ((gI s22 217 11) + 1))) 217 13 (g32 ((gI (gw s22 217 11 (g32 ((gI s22 217 11) + 1))) 217 13) - 1))) (gw (gw s22p 217 11 (g32 ((gI s22 217 11) + 1))) 217 13 (g32 ((gI (gw s22 217 11 (g32 ((gI s22 217 11) + 1))) 217 13) - 1))) := (E_w hs343)
              try simp only [E_R hs344, E_i hs344, E_1 hs344, E_7 hs344, E_14 hs344]
              refine gG_bool ?_
              exact gG_ret ⟨rfl, rfl, rfl, hs344⟩
            · unfold fb_191_128
              dsimp only
              try simp only [E_R h341, E_i h341, E_1 h341, E_7 h341, E_14 h341]
              have hs345 : Eq8 (gw s19 217 11 (g32 ((gI s19 217 11) + 1))) (gw s19p 217 11 (g32 ((gI s19 217 11) + 1))) := (E_w h341)
              try simp only [E_R hs345, E_i hs345, E_1 hs345, E_7 hs345, E_14 hs345]
              unfold fb_191_138
              dsimp only
              try simp only [E_R h341, E_i h341, E_1 h341, E_7 h341, E_14 h341]
              try simp only [E_R hs345, E_i hs345, E_1 hs345, E_7 hs345, E_14 hs345]
              have hs346 : Eq8 (gw (gw s19 217 11 (g32 ((gI s19 217 11) + 1))) 217 13 (g32 ((gI (gw s19 217 11 (g32 ((gI s19 217 11) + 1))) 217 13) - 1))) (gw (gw s19p 217 11 (g32 ((gI s19 217 11) + 1))) 217 13 (g32 ((gI (gw s19 217 11 (g32 ((gI s19 217 11) + 1))) 217 13) - 1))) := (E_w hs345)
              try simp only [E_R hs346, E_i hs346, E_1 hs346, E_7 hs346, E_14 hs346]
              refine gG_bool ?_
              exact gG_ret ⟨rfl, rfl, rfl, hs346⟩
          · unfold fb_191_128
            dsimp only
            try simp only [E_R h340, E_i h340, E_1 h340, E_7 h340, E_14 h340]
            have hs347 : Eq8 (gw s16 217 11 (g32 ((gI s16 217 11) + 1))) (gw s16p 217 11 (g32 ((gI s16 217 11) + 1))) := (E_w h340)
            try simp only [E_R hs347, E_i hs347, E_1 hs347, E_7 hs347, E_14 hs347]
            unfold fb_191_138
            dsimp only
            try simp only [E_R h340, E_i h340, E_1 h340, E_7 h340, E_14 h340]
            try simp only [E_R hs347, E_i hs347, E_1 hs347, E_7 hs347, E_14 hs347]
            have hs348 : Eq8 (gw (gw s16 217 11 (g32 ((gI s16 217 11) + 1))) 217 13 (g32 ((gI (gw s16 217 11 (g32 ((gI s16 217 11) + 1))) 217 13) - 1))) (gw (gw s16p 217 11 (g32 ((gI s16 217 11) + 1))) 217 13 (g32 ((gI (gw s16 217 11 (g32 ((gI s16 217 11) + 1))) 217 13) - 1))) := (E_w hs347)
            try simp only [E_R hs348, E_i hs348, E_1 hs348, E_7 hs348, E_14 hs348]
            refine gG_bool ?_
            exact gG_ret ⟨rfl, rfl, rfl, hs348⟩
        · refine gG_v1 (hr_191 hs337) (fun v27 s26 s26p h349 => ?_)
          try simp only [E_R h349, E_i h349, E_1 h349, E_7 h349, E_14 h349]
          refine gG_ite ?_ ?_
          · unfold fb_191_138
            dsimp only
            try simp only [E_R h349, E_i h349, E_1 h349, E_7 h349, E_14 h349]
            have hs350 : Eq8 (gw s26 217 13 (g32 ((gI s26 217 13) - 1))) (gw s26p 217 13 (g32 ((gI s26 217 13) - 1))) := (E_w h349)
            try simp only [E_R hs350, E_i hs350, E_1 hs350, E_7 hs350, E_14 hs350]
            refine gG_bool ?_
            exact gG_ret ⟨rfl, rfl, rfl, hs350⟩
          · unfold fb_191_138
            dsimp only
            try simp only [E_R h349, E_i h349, E_1 h349, E_7 h349, E_14 h349]
            have hs351 : Eq8 (gw s26 217 13 (g32 ((gI s26 217 13) - 1))) (gw s26p 217 13 (g32 ((gI s26 217 13) - 1))) := (E_w h349)
            try simp only [E_R hs351, E_i hs351, E_1 hs351, E_7 hs351, E_14 hs351]
            refine gG_bool ?_
            exact gG_ret ⟨rfl, rfl, rfl, hs351⟩
  · exact gG_ret ⟨rfl, rfl, rfl, h⟩

theorem n_fo_192 {r_191 : Nat → gS → Option gO}  {s s' : gS} (hr_191 : ∀ {s s' : gS}, Eq8 s s' → gG PE (r_191 217 s) (r_191 217 s')) (h : Eq8 s s') : gG PE (fo_192 r_191 217 s) (fo_192 r_191 217 s') := by
  unfold fo_192
  try simp only [E_R h, E_i h, E_1 h, E_7 h, E_14 h]
  refine gG_v1 (hr_191 h) (fun v2 s1 s1p h352 => ?_)
  try simp only [E_R h352, E_i h352, E_1 h352, E_7 h352, E_14 h352]
  refine gG_loop (fun y y' => y.1 = 217 ∧ y.1 = y'.1 ∧ y.2.1 = y'.2.1 ∧ Eq8 y.2.2 y'.2.2) (fun y y' hy => ?_) ⟨rfl, rfl, rfl, h352⟩
  obtain ⟨x0, x1, u355⟩ := y
  obtain ⟨z353, z354, u355p⟩ := y'
  obtain ⟨e359, e356, e357, h358⟩ := hy
  dsimp only at e359 e356 e357 h358
  subst e356 e357 e359
  show gG _ (sb_192_5 r_191 217 x1 u355) (sb_192_5 r_191 217 x1 u355p)
  unfold sb_192_5
  try simp only [E_R h358, E_i h358, E_1 h358, E_7 h358, E_14 h358]
  refine gG_ite ?_ ?_
  · refine gG_v1 (n_171 h358) (fun v5 s4 s4p h360 => ?_)
    try simp only [E_R h360, E_i h360, E_1 h360, E_7 h360, E_14 h360]
    refine gG_ite ?_ ?_
    · refine gG_map ?_
      refine gG_bool ?_
      exact gG_ret ⟨rfl, rfl, rfl, h360⟩
    · refine gG_v1 (hr_191 h360) (fun v8 s7 s7p h361 => ?_)
      try simp only [E_R h361, E_i h361, E_1 h361, E_7 h361, E_14 h361]
      refine gG_ite ?_ ?_
      · unfold fb_192_39
        try simp only [E_R h361, E_i h361, E_1 h361, E_7 h361, E_14 h361]
        exact gG_ret ⟨rfl, rfl, rfl, h361⟩
      · refine gG_ite ?_ ?_
        · unfold fb_192_39
          try simp only [E_R h361, E_i h361, E_1 h361, E_7 h361, E_14 h361]
          exact gG_ret ⟨rfl, rfl, rfl, h361⟩
        · exact gG_ret ⟨rfl, rfl, rfl, h361⟩
  · refine gG_map ?_
    refine gG_bool ?_
    exact gG_ret ⟨rfl, rfl, rfl, h358⟩

theorem n_fo_193 {r_192 : Nat → gS → Option gO}  {s s' : gS} (hr_192 : ∀ {s s' : gS}, Eq8 s s' → gG PE (r_192 217 s) (r_192 217 s')) (h : Eq8 s s') : gG PE (fo_193 r_192 217 s) (fo_193 r_192 217 s') := by
  unfold fo_193
  try simp only [E_R h, E_i h, E_1 h, E_7 h, E_14 h]
  refine gG_v1 (hr_192 h) (fun v2 s1 s1p h362 => ?_)
  try simp only [E_R h362, E_i h362, E_1 h362, E_7 h362, E_14 h362]
  refine gG_loop (fun y y' => y.1 = 217 ∧ y.1 = y'.1 ∧ y.2.1 = y'.2.1 ∧ Eq8 y.2.2 y'.2.2) (fun y y' hy => ?_) ⟨rfl, rfl, rfl, h362⟩
  obtain ⟨x0, x1, u365⟩ := y
  obtain ⟨z363, z364, u365p⟩ := y'
  obtain ⟨e369, e366, e367, h368⟩ := hy
  dsimp only at e369 e366 e367 h368
  subst e366 e367 e369
  show gG _ (sb_193_5 r_192 217 x1 u365) (sb_193_5 r_192 217 x1 u365p)
  unfold sb_193_5
  try simp only [E_R h368, E_i h368, E_1 h368, E_7 h368, E_14 h368]
  refine gG_ite ?_ ?_
  · refine gG_v1 (n_171 h368) (fun v5 s4 s4p h370 => ?_)
    try simp only [E_R h370, E_i h370, E_1 h370, E_7 h370, E_14 h370]
    refine gG_ite ?_ ?_
    · refine gG_map ?_
      refine gG_bool ?_
      exact gG_ret ⟨rfl, rfl, rfl, h370⟩
    · refine gG_v1 (hr_192 h370) (fun v8 s7 s7p h371 => ?_)
      try simp only [E_R h371, E_i h371, E_1 h371, E_7 h371, E_14 h371]
      refine gG_ite ?_ ?_
      · refine gG_ite ?_ ?_
        · exact gG_ret ⟨rfl, rfl, rfl, h371⟩
        · exact gG_ret ⟨rfl, rfl, rfl, h371⟩
      · exact gG_ret ⟨rfl, rfl, rfl, h371⟩
  · refine gG_map ?_
    refine gG_bool ?_
    exact gG_ret ⟨rfl, rfl, rfl, h368⟩

theorem n_rgm (n : Nat) : ∀ {s s' : gS}, Eq8 s s' → gG PE (fn_191 n 217 s) (fn_191 n 217 s') ∧ gG PE (fn_192 n 217 s) (fn_192 n 217 s') ∧ gG PE (fn_193 n 217 s) (fn_193 n 217 s') := by
  induction n with
  | zero => intro s s' h; exact ⟨gG_none, gG_none, gG_none⟩
  | succ n ih =>
    intro s s' h
    exact ⟨n_fo_191 (r_191 := fn_191 n) (r_193 := fn_193 n) (fun h => (ih h).1) (fun h => (ih h).2.2) h, n_fo_192 (r_191 := fn_191 n) (fun h => (ih h).1) h, n_fo_193 (r_192 := fn_192 n) (fun h => (ih h).2.1) h⟩
theorem n_193 {s s' : gS} (h : Eq8 s s') : gG PE (f_193 217 s) (f_193 217 s') := (n_rgm 24 h).2.2

theorem n_194   {s s' : gS}  (h : Eq8 s s') : gG PE (f_194 217 s) (f_194 217 s') := by
  unfold f_194
  try simp only [E_R h, E_i h, E_1 h, E_7 h, E_14 h]
  refine gG_v1 (n_171 h) (fun v2 s1 s1p h372 => ?_)
  try simp only [E_R h372, E_i h372, E_1 h372, E_7 h372, E_14 h372]
  refine gG_ite ?_ ?_
  · refine gG_v1 (n_171 h372) (fun v5 s4 s4p h373 => ?_)
    try simp only [E_R h373, E_i h373, E_1 h373, E_7 h373, E_14 h373]
    refine gG_ite ?_ ?_
    · refine gG_v0 (n_172 h373) (fun s7 s7p h374 => ?_)
      try simp only [E_R h374, E_i h374, E_1 h374, E_7 h374, E_14 h374]
      exact gG_ret ⟨rfl, rfl, rfl, h374⟩
    · unfold fb_194_29
      try simp only [E_R h373, E_i h373, E_1 h373, E_7 h373, E_14 h373]
      refine gG_v1 (n_174 h373) (fun v10 s9 s9p h375 => ?_)
      try simp only [E_R h375, E_i h375, E_1 h375, E_7 h375, E_14 h375]
      refine gG_ite ?_ ?_
      · refine gG_v1 (n_171 h375) (fun v12 s11 s11p h376 => ?_)
        try simp only [E_R h376, E_i h376, E_1 h376, E_7 h376, E_14 h376]
        refine gG_ite ?_ ?_
        · unfold fb_194_67
          try simp only [E_R h376, E_i h376, E_1 h376, E_7 h376, E_14 h376]
          refine gG_ite ?_ ?_
          · refine gG_ite ?_ ?_
            · exact gG_ret ⟨rfl, rfl, rfl, h376⟩
            · refine gG_ite ?_ ?_
              · unfold fb_194_95
                dsimp only
                try simp only [E_R h376, E_i h376, E_1 h376, E_7 h376, E_14 h376]
                have hs377 : Eq8 (gw s11 217 17 (g32 ((gI s11 217 17) + (g32 (-v10))))) (gw s11p 217 17 (g32 ((gI s11 217 17) + (g32 (-v10))))) := (E_w h376)
                try simp only [E_R hs377, E_i hs377, E_1 hs377, E_7 hs377, E_14 hs377]
                exact gG_ret ⟨rfl, rfl, rfl, hs377⟩
              · unfold fb_194_95
                dsimp only
                try simp only [E_R h376, E_i h376, E_1 h376, E_7 h376, E_14 h376]
                have hs378 : Eq8 (gw s11 217 17 (g32 ((gI s11 217 17) + v10))) (gw s11p 217 17 (g32 ((gI s11 217 17) + v10))) := (E_w h376)
                try simp only [E_R hs378, E_i hs378, E_1 hs378, E_7 hs378, E_14 hs378]
                exact gG_ret ⟨rfl, rfl, rfl, hs378⟩
          · exact gG_ret ⟨rfl, rfl, rfl, h376⟩
        · refine gG_v1 (n_193 h376) (fun v16 s15 s15p h379 => ?_)
          try simp only [E_R h379, E_i h379, E_1 h379, E_7 h379, E_14 h379]
          refine gG_ite ?_ ?_
          · unfold fb_194_67
            try simp only [E_R h379, E_i h379, E_1 h379, E_7 h379, E_14 h379]
            refine gG_ite ?_ ?_
            · refine gG_ite ?_ ?_
              · exact gG_ret ⟨rfl, rfl, rfl, h379⟩
              · refine gG_ite ?_ ?_
                · unfold fb_194_95
                  dsimp only
                  try simp only [E_R h379, E_i h379, E_1 h379, E_7 h379, E_14 h379]
                  have hs380 : Eq8 (gw s15 217 17 (g32 ((gI s15 217 17) + (g32 (-v10))))) (gw s15p 217 17 (g32 ((gI s15 217 17) + (g32 (-v10))))) := (E_w h379)
                  try simp only [E_R hs380, E_i hs380, E_1 hs380, E_7 hs380, E_14 hs380]
                  exact gG_ret ⟨rfl, rfl, rfl, hs380⟩
                · unfold fb_194_95
                  dsimp only
                  try simp only [E_R h379, E_i h379, E_1 h379, E_7 h379, E_14 h379]
                  have hs381 : Eq8 (gw s15 217 17 (g32 ((gI s15 217 17) + v10))) (gw s15p 217 17 (g32 ((gI s15 217 17) + v10))) := (E_w h379)
                  try simp only [E_R hs381, E_i hs381, E_1 hs381, E_7 hs381, E_14 hs381]
                  exact gG_ret ⟨rfl, rfl, rfl, hs381⟩
            · exact gG_ret ⟨rfl, rfl, rfl, h379⟩
          · unfold fb_194_67
            try simp only [E_R h379, E_i h379, E_1 h379, E_7 h379, E_14 h379]
            refine gG_ite ?_ ?_
            · refine gG_ite ?_ ?_
              · exact gG_ret ⟨rfl, rfl, rfl, h379⟩
              · refine gG_ite ?_ ?_
                · unfold fb_194_95
                  dsimp only
                  try simp only [E_R h379, E_i h379, E_1 h379, E_7 h379, E_14 h379]
                  have hs382 : Eq8 (gw s15 217 17 (g32 ((gI s15 217 17) + (g32 (-v10))))) (gw s15p 217 17 (g32 ((gI s15 217 17) + (g32 (-v10))))) := (E_w h379)
                  try simp only [E_R hs382, E_i hs382, E_1 hs382, E_7 hs382, E_14 hs382]
                  exact gG_ret ⟨rfl, rfl, rfl, hs382⟩
                · unfold fb_194_95
                  dsimp only
                  try simp only [E_R h379, E_i h379, E_1 h379, E_7 h379, E_14 h379]
                  have hs383 : Eq8 (gw s15 217 17 (g32 ((gI s15 217 17) + v10))) (gw s15p 217 17 (g32 ((gI s15 217 17) + v10))) := (E_w h379)
                  try simp only [E_R hs383, E_i hs383, E_1 hs383, E_7 hs383, E_14 hs383]
                  exact gG_ret ⟨rfl, rfl, rfl, hs383⟩
            · exact gG_ret ⟨rfl, rfl, rfl, h379⟩
      · exact gG_ret ⟨rfl, rfl, rfl, h375⟩
  · unfold fb_194_29
    try simp only [E_R h372, E_i h372, E_1 h372, E_7 h372, E_14 h372]
    refine gG_v1 (n_174 h372) (fun v10 s9 s9p h384 => ?_)
    try simp only [E_R h384, E_i h384, E_1 h384, E_7 h384, E_14 h384]
    refine gG_ite ?_ ?_
    · refine gG_v1 (n_171 h384) (fun v12 s11 s11p h385 => ?_)
      try simp only [E_R h385, E_i h385, E_1 h385, E_7 h385, E_14 h385]
      refine gG_ite ?_ ?_
      · unfold fb_194_67
        try simp only [E_R h385, E_i h385, E_1 h385, E_7 h385, E_14 h385]
        refine gG_ite ?_ ?_
        · refine gG_ite ?_ ?_
          · exact gG_ret ⟨rfl, rfl, rfl, h385⟩
          · refine gG_ite ?_ ?_
            · unfold fb_194_95
              dsimp only
              try simp only [E_R h385, E_i h385, E_1 h385, E_7 h385, E_14 h385]
              have hs386 : Eq8 (gw s11 217 17 (g32 ((gI s11 217 17) + (g32 (-v10))))) (gw s11p 217 17 (g32 ((gI s11 217 17) + (g32 (-v10))))) := (E_w h385)
              try simp only [E_R hs386, E_i hs386, E_1 hs386, E_7 hs386, E_14 hs386]
              exact gG_ret ⟨rfl, rfl, rfl, hs386⟩
            · unfold fb_194_95
              dsimp only
              try simp only [E_R h385, E_i h385, E_1 h385, E_7 h385, E_14 h385]
              have hs387 : Eq8 (gw s11 217 17 (g32 ((gI s11 217 17) + v10))) (gw s11p 217 17 (g32 ((gI s11 217 17) + v10))) := (E_w h385)
              try simp only [E_R hs387, E_i hs387, E_1 hs387, E_7 hs387, E_14 hs387]
              exact gG_ret ⟨rfl, rfl, rfl, hs387⟩
        · exact gG_ret ⟨rfl, rfl, rfl, h385⟩
      · refine gG_v1 (n_193 h385) (fun v16 s15 s15p h388 => ?_)
        try simp only [E_R h388, E_i h388, E_1 h388, E_7 h388, E_14 h388]
        refine gG_ite ?_ ?_
        · unfold fb_194_67
          try simp only [E_R h388, E_i h388, E_1 h388, E_7 h388, E_14 h388]
          refine gG_ite ?_ ?_
          · refine gG_ite ?_ ?_
            · exact gG_ret ⟨rfl, rfl, rfl, h388⟩
            · refine gG_ite ?_ ?_
              · unfold fb_194_95
                dsimp only
                try simp only [E_R h388, E_i h388, E_1 h388, E_7 h388, E_14 h388]
                have hs389 : Eq8 (gw s15 217 17 (g32 ((gI s15 217 17) + (g32 (-v10))))) (gw s15p 217 17 (g32 ((gI s15 217 17) + (g32 (-v10))))) := (E_w h388)
                try simp only [E_R hs389, E_i hs389, E_1 hs389, E_7 hs389, E_14 hs389]
                exact gG_ret ⟨rfl, rfl, rfl, hs389⟩
              · unfold fb_194_95
                dsimp only
                try simp only [E_R h388, E_i h388, E_1 h388, E_7 h388, E_14 h388]
                have hs390 : Eq8 (gw s15 217 17 (g32 ((gI s15 217 17) + v10))) (gw s15p 217 17 (g32 ((gI s15 217 17) + v10))) := (E_w h388)
                try simp only [E_R hs390, E_i hs390, E_1 hs390, E_7 hs390, E_14 hs390]
                exact gG_ret ⟨rfl, rfl, rfl, hs390⟩
          · exact gG_ret ⟨rfl, rfl, rfl, h388⟩
        · unfold fb_194_67
          try simp only [E_R h388, E_i h388, E_1 h388, E_7 h388, E_14 h388]
          refine gG_ite ?_ ?_
          · refine gG_ite ?_ ?_
            · exact gG_ret ⟨rfl, rfl, rfl, h388⟩
            · refine gG_ite ?_ ?_
              · unfold fb_194_95
                dsimp only
                try simp only [E_R h388, E_i h388, E_1 h388, E_7 h388, E_14 h388]
                have hs391 : Eq8 (gw s15 217 17 (g32 ((gI s15 217 17) + (g32 (-v10))))) (gw s15p 217 17 (g32 ((gI s15 217 17) + (g32 (-v10))))) := (E_w h388)
                try simp only [E_R hs391, E_i hs391, E_1 hs391, E_7 hs391, E_14 hs391]
                exact gG_ret ⟨rfl, rfl, rfl, hs391⟩
              · unfold fb_194_95
                dsimp only
                try simp only [E_R h388, E_i h388, E_1 h388, E_7 h388, E_14 h388]
                have hs392 : Eq8 (gw s15 217 17 (g32 ((gI s15 217 17) + v10))) (gw s15p 217 17 (g32 ((gI s15 217 17) + v10))) := (E_w h388)
                try simp only [E_R hs392, E_i hs392, E_1 hs392, E_7 hs392, E_14 hs392]
                exact gG_ret ⟨rfl, rfl, rfl, hs392⟩
          · exact gG_ret ⟨rfl, rfl, rfl, h388⟩
    · exact gG_ret ⟨rfl, rfl, rfl, h384⟩

theorem n_184  {a1 : Int} {s s' : gS}  (h : Eq8 s s') : gG PE (f_184 217 a1 s) (f_184 217 a1 s') := by
  unfold f_184
  try simp only [E_R h, E_i h, E_1 h, E_7 h, E_14 h]
  refine gG_v0 (n_169 h) (fun s1 s1p h393 => ?_)
  try simp only [E_R h393, E_i h393, E_1 h393, E_7 h393, E_14 h393]
  refine gG_ite ?_ ?_
  · unfold fb_184_20
    try simp only [E_R h393, E_i h393, E_1 h393, E_7 h393, E_14 h393]
    refine gG_loop (fun y y' => y.1 = 217 ∧ y.1 = y'.1 ∧ y.2.1 = y'.2.1 ∧ y.2.2.1 = y'.2.2.1 ∧ y.2.2.2.1 = y'.2.2.2.1 ∧ Eq8 y.2.2.2.2 y'.2.2.2.2) (fun y y' hy => ?_) ⟨rfl, rfl, rfl, rfl, rfl, h393⟩
    obtain ⟨x0, x1, x2, x3, u398⟩ := y
    obtain ⟨z394, z395, z396, z397, u398p⟩ := y'
    obtain ⟨e404, e399, e400, e401, e402, h403⟩ := hy
    dsimp only at e404 e399 e400 e401 e402 h403
    subst e399 e400 e401 e402 e404
    show gG _ (sb_184_23 217 x1 x2 x3 u398) (sb_184_23 217 x1 x2 x3 u398p)
    unfold sb_184_23
    try simp only [E_R h403, E_i h403, E_1 h403, E_7 h403, E_14 h403]
    refine gG_ite ?_ ?_
    · refine gG_map ?_
      exact gG_ret ⟨rfl, rfl, rfl, h403⟩
    · refine gG_ite ?_ ?_
      · refine gG_v0 (n_169 h403) (fun s3 s3p h405 => ?_)
        try simp only [E_R h405, E_i h405, E_1 h405, E_7 h405, E_14 h405]
        refine gG_ite ?_ ?_
        · unfold fb_184_51
          try simp only [E_R h405, E_i h405, E_1 h405, E_7 h405, E_14 h405]
          refine gG_ite ?_ ?_
          · refine gG_v0 (n_172 h405) (fun s5 s5p h406 => ?_)
            try simp only [E_R h406, E_i h406, E_1 h406, E_7 h406, E_14 h406]
            unfold fb_184_80
            dsimp only
            try simp only [E_R h406, E_i h406, E_1 h406, E_7 h406, E_14 h406]
            refine gG_v0 (n_169 h406) (fun s7 s7p h407 => ?_)
            try simp only [E_R h407, E_i h407, E_1 h407, E_7 h407, E_14 h407]
            refine gG_ite ?_ ?_
            · refine gG_ite ?_ ?_
              · exact gG_ret ⟨rfl, rfl, rfl, rfl, rfl, h407⟩
              · refine gG_v1 (n_170 h407) (fun v10 s9 s9p h408 => ?_)
                try simp only [E_R h408, E_i h408, E_1 h408, E_7 h408, E_14 h408]
                have hs409 : Eq8 (gw s9 217 11 (g32 ((gI s9 217 11) + 1))) (gw s9p 217 11 (g32 ((gI s9 217 11) + 1))) := (E_w h408)
                try simp only [E_R hs409, E_i hs409, E_1 hs409, E_7 hs409, E_14 hs409]
                refine gG_ite ?_ ?_
                · refine gG_v0 (n_172 h408) (fun s12 s12p h410 => ?_)
                  try simp only [E_R h410, E_i h410, E_1 h410, E_7 h410, E_14 h410]
                  exact gG_ret ⟨rfl, rfl, rfl, rfl, rfl, h410⟩
                · exact gG_ret ⟨rfl, rfl, rfl, rfl, rfl, hs409⟩
            · exact gG_ret ⟨rfl, rfl, rfl, rfl, rfl, h407⟩
          · refine gG_ite ?_ ?_
            · refine gG_v0 (n_182 h405) (fun s15 s15p h411 => ?_)
              try simp only [E_R h411, E_i h411, E_1 h411, E_7 h411, E_14 h411]
              unfold fb_184_80
              dsimp only
              try simp only [E_R h411, E_i h411, E_1 h411, E_7 h411, E_14 h411]
              refine gG_v0 (n_169 h411) (fun s7 s7p h412 => ?_)
              try simp only [E_R h412, E_i h412, E_1 h412, E_7 h412, E_14 h412]
              refine gG_ite ?_ ?_
              · refine gG_ite ?_ ?_
                · exact gG_ret ⟨rfl, rfl, rfl, rfl, rfl, h412⟩
                · refine gG_v1 (n_170 h412) (fun v10 s9 s9p h413 => ?_)
                  try simp only [E_R h413, E_i h413, E_1 h413, E_7 h413, E_14 h413]
                  have hs414 : Eq8 (gw s9 217 11 (g32 ((gI s9 217 11) + 1))) (gw s9p 217 11 (g32 ((gI s9 217 11) + 1))) := (E_w h413)
                  try simp only [E_R hs414, E_i hs414, E_1 hs414, E_7 hs414, E_14 hs414]
                  refine gG_ite ?_ ?_
                  · refine gG_v0 (n_172 h413) (fun s12 s12p h415 => ?_)
                    try simp only [E_R h415, E_i h415, E_1 h415, E_7 h415, E_14 h415]
                    exact gG_ret ⟨rfl, rfl, rfl, rfl, rfl, h415⟩
                  · exact gG_ret ⟨rfl, rfl, rfl, rfl, rfl, hs414⟩
              · exact gG_ret ⟨rfl, rfl, rfl, rfl, rfl, h412⟩
            · refine gG_v0 (n_194 h405) (fun s17 s17p h416 => ?_)
              try simp only [E_R h416, E_i h416, E_1 h416, E_7 h416, E_14 h416]
              unfold fb_184_80
              dsimp only
              try simp only [E_R h416, E_i h416, E_1 h416, E_7 h416, E_14 h416]
              refine gG_v0 (n_169 h416) (fun s7 s7p h417 => ?_)
              try simp only [E_R h417, E_i h417, E_1 h417, E_7 h417, E_14 h417]
              refine gG_ite ?_ ?_
              · refine gG_ite ?_ ?_
                · exact gG_ret ⟨rfl, rfl, rfl, rfl, rfl, h417⟩
                · refine gG_v1 (n_170 h417) (fun v10 s9 s9p h418 => ?_)
                  try simp only [E_R h418, E_i h418, E_1 h418, E_7 h418, E_14 h418]
                  have hs419 : Eq8 (gw s9 217 11 (g32 ((gI s9 217 11) + 1))) (gw s9p 217 11 (g32 ((gI s9 217 11) + 1))) := (E_w h418)
                  try simp only [E_R hs419, E_i hs419, E_1 hs419, E_7 hs419, E_14 hs419]
                  refine gG_ite ?_ ?_
                  · refine gG_v0 (n_172 h418) (fun s12 s12p h420 => ?_)
                    try simp only [E_R h420, E_i h420, E_1 h420, E_7 h420, E_14 h420]
                    exact gG_ret ⟨rfl, rfl, rfl, rfl, rfl, h420⟩
                  · exact gG_ret ⟨rfl, rfl, rfl, rfl, rfl, hs419⟩
              · exact gG_ret ⟨rfl, rfl, rfl, rfl, rfl, h417⟩
        · unfold fb_184_51
          try simp only [E_R h405, E_i h405, E_1 h405, E_7 h405, E_14 h405]
          refine gG_ite ?_ ?_
          · refine gG_v0 (n_172 h405) (fun s5 s5p h421 => ?_)
            try simp only [E_R h421, E_i h421, E_1 h421, E_7 h421, E_14 h421]
            unfold fb_184_80
            dsimp only
            try simp only [E_R h421, E_i h421, E_1 h421, E_7 h421, E_14 h421]
            refine gG_v0 (n_169 h421) (fun s7 s7p h422 => ?_)
            try simp only [E_R h422, E_i h422, E_1 h422, E_7 h422, E_14 h422]
            refine gG_ite ?_ ?_
            · refine gG_ite ?_ ?_
              · exact gG_ret ⟨rfl, rfl, rfl, rfl, rfl, h422⟩
              · refine gG_v1 (n_170 h422) (fun v10 s9 s9p h423 => ?_)
                try simp only [E_R h423, E_i h423, E_1 h423, E_7 h423, E_14 h423]
                have hs424 : Eq8 (gw s9 217 11 (g32 ((gI s9 217 11) + 1))) (gw s9p 217 11 (g32 ((gI s9 217 11) + 1))) := (E_w h423)
                try simp only [E_R hs424, E_i hs424, E_1 hs424, E_7 hs424, E_14 hs424]
                refine gG_ite ?_ ?_
                · refine gG_v0 (n_172 h423) (fun s12 s12p h425 => ?_)
                  try simp only [E_R h425, E_i h425, E_1 h425, E_7 h425, E_14 h425]
                  exact gG_ret ⟨rfl, rfl, rfl, rfl, rfl, h425⟩
                · exact gG_ret ⟨rfl, rfl, rfl, rfl, rfl, hs424⟩
            · exact gG_ret ⟨rfl, rfl, rfl, rfl, rfl, h422⟩
          · refine gG_ite ?_ ?_
            · refine gG_v0 (n_182 h405) (fun s15 s15p h426 => ?_)
              try simp only [E_R h426, E_i h426, E_1 h426, E_7 h426, E_14 h426]
              unfold fb_184_80
              dsimp only
              try simp only [E_R h426, E_i h426, E_1 h426, E_7 h426, E_14 h426]
              refine gG_v0 (n_169 h426) (fun s7 s7p h427 => ?_)
              try simp only [E_R h427, E_i h427, E_1 h427, E_7 h427, E_14 h427]
              refine gG_ite ?_ ?_
              · refine gG_ite ?_ ?_
                · exact gG_ret ⟨rfl, rfl, rfl, rfl, rfl, h427⟩
                · refine gG_v1 (n_170 h427) (fun v10 s9 s9p h428 => ?_)
                  try simp only [E_R h428, E_i h428, E_1 h428, E_7 h428, E_14 h428]
                  have hs429 : Eq8 (gw s9 217 11 (g32 ((gI s9 217 11) + 1))) (gw s9p 217 11 (g32 ((gI s9 217 11) + 1))) := (E_w h428)
                  try simp only [E_R hs429, E_i hs429, E_1 hs429, E_7 hs429, E_14 hs429]
                  refine gG_ite ?_ ?_
                  · refine gG_v0 (n_172 h428) (fun s12 s12p h430 => ?_)
                    try simp only [E_R h430, E_i h430, E_1 h430, E_7 h430, E_14 h430]
                    exact gG_ret ⟨rfl, rfl, rfl, rfl, rfl, h430⟩
                  · exact gG_ret ⟨rfl, rfl, rfl, rfl, rfl, hs429⟩
              · exact gG_ret ⟨rfl, rfl, rfl, rfl, rfl, h427⟩
            · refine gG_v0 (n_194 h405) (fun s17 s17p h431 => ?_)
              try simp only [E_R h431, E_i h431, E_1 h431, E_7 h431, E_14 h431]
              unfold fb_184_80
              dsimp only
              try simp only [E_R h431, E_i h431, E_1 h431, E_7 h431, E_14 h431]
              refine gG_v0 (n_169 h431) (fun s7 s7p h432 => ?_)
              try simp only [E_R h432, E_i h432, E_1 h432, E_7 h432, E_14 h432]
              refine gG_ite ?_ ?_
              · refine gG_ite ?_ ?_
                · exact gG_ret ⟨rfl, rfl, rfl, rfl, rfl, h432⟩
                · refine gG_v1 (n_170 h432) (fun v10 s9 s9p h433 => ?_)
                  try simp only [E_R h433, E_i h433, E_1 h433, E_7 h433, E_14 h433]
                  have hs434 : Eq8 (gw s9 217 11 (g32 ((gI s9 217 11) + 1))) (gw s9p 217 11 (g32 ((gI s9 217 11) + 1))) := (E_w h433)
                  try simp only [E_R hs434, E_i hs434, E_1 hs434, E_7 hs434, E_14 hs434]
                  refine gG_ite ?_ ?_
                  · refine gG_v0 (n_172 h433) (fun s12 s12p h435 => ?_)
                    try simp only [E_R h435, E_i h435, E_1 h435, E_7 h435, E_14 h435]
                    exact gG_ret ⟨rfl, rfl, rfl, rfl, rfl, h435⟩
                  · exact gG_ret ⟨rfl, rfl, rfl, rfl, rfl, hs434⟩
              · exact gG_ret ⟨rfl, rfl, rfl, rfl, rfl, h432⟩
      · refine gG_map ?_
        exact gG_ret ⟨rfl, rfl, rfl, h403⟩
  · unfold fb_184_20
    try simp only [E_R h393, E_i h393, E_1 h393, E_7 h393, E_14 h393]
    refine gG_loop (fun y y' => y.1 = 217 ∧ y.1 = y'.1 ∧ y.2.1 = y'.2.1 ∧ y.2.2.1 = y'.2.2.1 ∧ y.2.2.2.1 = y'.2.2.2.1 ∧ Eq8 y.2.2.2.2 y'.2.2.2.2) (fun y y' hy => ?_) ⟨rfl, rfl, rfl, rfl, rfl, h393⟩
    obtain ⟨x0, x1, x2, x3, u440⟩ := y
    obtain ⟨z436, z437, z438, z439, u440p⟩ := y'
    obtain ⟨e446, e441, e442, e443, e444, h445⟩ := hy
    dsimp only at e446 e441 e442 e443 e444 h445
    subst e441 e442 e443 e444 e446
    show gG _ (sb_184_23 217 x1 x2 x3 u440) (sb_184_23 217 x1 x2 x3 u440p)
    unfold sb_184_23
    try simp only [E_R h445, E_i h445, E_1 h445, E_7 h445, E_14 h445]
    refine gG_ite ?_ ?_
    · refine gG_map ?_
      exact gG_ret ⟨rfl, rfl, rfl, h445⟩
    · refine gG_ite ?_ ?_
      · refine gG_v0 (n_169 h445) (fun s3 s3p h447 => ?_)
        try simp only [E_R h447, E_i h447, E_1 h447, E_7 h447, E_14 h447]
        refine gG_ite ?_ ?_
        · unfold fb_184_51
          try simp only [E_R h447, E_i h447, E_1 h447, E_7 h447, E_14 h447]
          refine gG_ite ?_ ?_
          · refine gG_v0 (n_172 h447) (fun s5 s5p h448 => ?_)
            try simp only [E_R h448, E_i h448, E_1 h448, E_7 h448, E_14 h448]
            unfold fb_184_80
            dsimp only
            try simp only [E_R h448, E_i h448, E_1 h448, E_7 h448, E_14 h448]
            refine gG_v0 (n_169 h448) (fun s7 s7p h449 => ?_)
            try simp only [E_R h449, E_i h449, E_1 h449, E_7 h449, E_14 h449]
            refine gG_ite ?_ ?_
            · refine gG_ite ?_ ?_
              · exact gG_ret ⟨rfl, rfl, rfl, rfl, rfl, h449⟩
              · refine gG_v1 (n_170 h449) (fun v10 s9 s9p h450 => ?_)
                try simp only [E_R h450, E_i h450, E_1 h450, E_7 h450, E_14 h450]
                have hs451 : Eq8 (gw s9 217 11 (g32 ((gI s9 217 11) + 1))) (gw s9p 217 11 (g32 ((gI s9 217 11) + 1))) := (E_w h450)
                try simp only [E_R hs451, E_i hs451, E_1 hs451, E_7 hs451, E_14 hs451]
                refine gG_ite ?_ ?_
                · refine gG_v0 (n_172 h450) (fun s12 s12p h452 => ?_)
                  try simp only [E_R h452, E_i h452, E_1 h452, E_7 h452, E_14 h452]
                  exact gG_ret ⟨rfl, rfl, rfl, rfl, rfl, h452⟩
                · exact gG_ret ⟨rfl, rfl, rfl, rfl, rfl, hs451⟩
            · exact gG_ret ⟨rfl, rfl, rfl, rfl, rfl, h449⟩
          · refine gG_ite ?_ ?_
            · refine gG_v0 (n_182 h447) (fun s15 s15p h453 => ?_)
              try simp only [E_R h453, E_i h453, E_1 h453, E_7 h453, E_14 h453]
              unfold fb_184_80
              dsimp only
              try simp only [E_R h453, E_i h453, E_1 h453, E_7 h453, E_14 h453]
              refine gG_v0 (n_169 h453) (fun s7 s7p h454 => ?_)
              try simp only [E_R h454, E_i h454, E_1 h454, E_7 h454, E_14 h454]
              refine gG_ite ?_ ?_
              · refine gG_ite ?_ ?_
                · exact gG_ret ⟨rfl, rfl, rfl, rfl, rfl, h454⟩
                · refine gG_v1 (n_170 h454) (fun v10 s9 s9p h455 => ?_)
                  try simp only [E_R h455, E_i h455, E_1 h455, E_7 h455, E_14 h455]
                  have hs456 : Eq8 (gw s9 217 11 (g32 ((gI s9 217 11) + 1))) (gw s9p 217 11 (g32 ((gI s9 217 11) + 1))) := (E_w h455)
                  try simp only [E_R hs456, E_i hs456, E_1 hs456, E_7 hs456, E_14 hs456]
                  refine gG_ite ?_ ?_
                  · refine gG_v0 (n_172 h455) (fun s12 s12p h457 => ?_)
                    try simp only [E_R h457, E_i h457, E_1 h457, E_7 h457, E_14 h457]
                    exact gG_ret ⟨rfl, rfl, rfl, rfl, rfl, h457⟩
                  · exact gG_ret ⟨rfl, rfl, rfl, rfl, rfl, hs456⟩
              · exact gG_ret ⟨rfl, rfl, rfl, rfl, rfl, h454⟩
            · refine gG_v0 (n_194 h447) (fun s17 s17p h458 => ?_)
              try simp only [E_R h458, E_i h458, E_1 h458, E_7 h458, E_14 h458]
              unfold fb_184_80
              dsimp only
              try simp only [E_R h458, E_i h458, E_1 h458, E_7 h458, E_14 h458]
              refine gG_v0 (n_169 h458) (fun s7 s7p h459 => ?_)
              try simp only [E_R h459, E_i h459, E_1 h459, E_7 h459, E_14 h459]
              refine gG_ite ?_ ?_
              · refine gG_ite ?_ ?_
                · exact gG_ret ⟨rfl, rfl, rfl, rfl, rfl, h459⟩
                · refine gG_v1 (n_170 h459) (fun v10 s9 s9p h460 => ?_)
                  try simp only [E_R h460, E_i h460, E_1 h460, E_7 h460, E_14 h460]
                  have hs461 : Eq8 (gw s9 217 11 (g32 ((gI s9 217 11) + 1))) (gw s9p 217 11 (g32 ((gI s9 217 11) + 1))) := (E_w h460)
                  try simp only [E_R hs461, E_i hs461, E_1 hs461, E_7 hs461, E_14 hs461]
                  refine gG_ite ?_ ?_
                  · refine gG_v0 (n_172 h460) (fun s12 s12p h462 => ?_)
                    try simp only [E_R h462, E_i h462, E_1 h462, E_7 h462, E_14 h462]
                    exact gG_ret ⟨rfl, rfl, rfl, rfl, rfl, h462⟩
                  · exact gG_ret ⟨rfl, rfl, rfl, rfl, rfl, hs461⟩
              · exact gG_ret ⟨rfl, rfl, rfl, rfl, rfl, h459⟩
        · unfold fb_184_51
          try simp only [E_R h447, E_i h447, E_1 h447, E_7 h447, E_14 h447]
          refine gG_ite ?_ ?_
          · refine gG_v0 (n_172 h447) (fun s5 s5p h463 => ?_)
            try simp only [E_R h463, E_i h463, E_1 h463, E_7 h463, E_14 h463]
            unfold fb_184_80
            dsimp only
            try simp only [E_R h463, E_i h463, E_1 h463, E_7 h463, E_14 h463]
            refine gG_v0 (n_169 h463) (fun s7 s7p h464 => ?_)
            try simp only [E_R h464, E_i h464, E_1 h464, E_7 h464, E_14 h464]
            refine gG_ite ?_ ?_
            · refine gG_ite ?_ ?_
              · exact gG_ret ⟨rfl, rfl, rfl, rfl, rfl, h464⟩
              · refine gG_v1 (n_170 h464) (fun v10 s9 s9p h465 => ?_)
                try simp only [E_R h465, E_i h465, E_1 h465, E_7 h465, E_14 h465]
                have hs466 : Eq8 (gw s9 217 11 (g32 ((gI s9 217 11) + 1))) (gw s9p 217 11 (g32 ((gI s9 217 11) + 1))) := (E_w h465)
                try simp only [E_R hs466, E_i hs466, E_1 hs466, E_7 hs466, E_14 hs466]
                refine gG_ite ?_ ?_
                · refine gG_v0 (n_172 h465) (fun s12 s12p h467 => ?_)
                  try simp only [E_R h467, E_i h467, E_1 h467, E_7 h467, E_14 h467]
                  exact gG_ret ⟨rfl, rfl, rfl, rfl, rfl, h467⟩
                · exact gG_ret ⟨rfl, rfl, rfl, rfl, rfl, hs466⟩
            · exact gG_ret ⟨rfl, rfl, rfl, rfl, rfl, h464⟩
          · refine gG_ite ?_ ?_
            · refine gG_v0 (n_182 h447) (fun s15 s15p h468 => ?_)
              try simp only [E_R h468, E_i h468, E_1 h468, E_7 h468, E_14 h468]
              unfold fb_184_80
              dsimp only
              try simp only [E_R h468, E_i h468, E_1 h468, E_7 h468, E_14 h468]
              refine gG_v0 (n_169 h468) (fun s7 s7p h469 => ?_)
              try simp only [E_R h469, E_i h469, E_1 h469, E_7 h469, E_14 h469]
              refine gG_ite ?_ ?_
              · refine gG_ite ?_ ?_
                · exact gG_ret ⟨rfl, rfl, rfl, rfl, rfl, h469⟩
                · refine gG_v1 (n_170 h469) (fun v10 s9 s9p h470 => ?_)
                  try simp only [E_R h470, E_i h470, E_1 h470, E_7 h470, E_14 h470]
                  have hs471 : Eq8 (gw s9 217 11 (g32 ((gI s9 217 11) + 1))) (gw s9p 217 11 (g32 ((gI s9 217 11) + 1))) := (E_w h470)
                  try simp only [E_R hs471, E_i hs471, E_1 hs471, E_7 hs471, E_14 hs471]
                  refine gG_ite ?_ ?_
                  · refine gG_v0 (n_172 h470) (fun s12 s12p h472 => ?_)
                    try simp only [E_R h472, E_i h472, E_1 h472, E_7 h472, E_14 h472]
                    exact gG_ret ⟨rfl, rfl, rfl, rfl, rfl, h472⟩
                  · exact gG_ret ⟨rfl, rfl, rfl, rfl, rfl, hs471⟩
              · exact gG_ret ⟨rfl, rfl, rfl, rfl, rfl, h469⟩
            · refine gG_v0 (n_194 h447) (fun s17 s17p h473 => ?_)
              try simp only [E_R h473, E_i h473, E_1 h473, E_7 h473, E_14 h473]
              unfold fb_184_80
              dsimp only
              try simp only [E_R h473, E_i h473, E_1 h473, E_7 h473, E_14 h473]
              refine gG_v0 (n_169 h473) (fun s7 s7p h474 => ?_)
              try simp only [E_R h474, E_i h474, E_1 h474, E_7 h474, E_14 h474]
              refine gG_ite ?_ ?_
              · refine gG_ite ?_ ?_
                · exact gG_ret ⟨rfl, rfl, rfl, rfl, rfl, h474⟩
                · refine gG_v1 (n_170 h474) (fun v10 s9 s9p h475 => ?_)
                  try simp only [E_R h475, E_i h475, E_1 h475, E_7 h475, E_14 h475]
                  have hs476 : Eq8 (gw s9 217 11 (g32 ((gI s9 217 11) + 1))) (gw s9p 217 11 (g32 ((gI s9 217 11) + 1))) := (E_w h475)
                  try simp only [E_R hs476, E_i hs476, E_1 hs476, E_7 hs476, E_14 hs476]
                  refine gG_ite ?_ ?_
                  · refine gG_v0 (n_172 h475) (fun s12 s12p h477 => ?_)
                    try simp only [E_R h477, E_i h477, E_1 h477, E_7 h477, E_14 h477]
                    exact gG_ret ⟨rfl, rfl, rfl, rfl, rfl, h477⟩
                  · exact gG_ret ⟨rfl, rfl, rfl, rfl, rfl, hs476⟩
              · exact gG_ret ⟨rfl, rfl, rfl, rfl, rfl, h474⟩
      · refine gG_map ?_
        exact gG_ret ⟨rfl, rfl, rfl, h445⟩
