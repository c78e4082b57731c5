section
/-- alike but for the memo -/
noncomputable def Eq8 (s s' : gS) : Prop := (s'.1 = s.1 ∧ s'.2.1 = s.2.1 ∧ s'.2.2.2 = s.2.2.2) ∧ (gR s 217 1 = 218 ∧ gR s 217 7 = 222 ∧ gR s 217 14 = 223) ∧ ∀ a k, a ≠ 228 → gI s' a k = gI s a k
noncomputable def gG {Q : Type} (P : Q → Q → Prop) (x x' : Option Q) : Prop := ∀ r r', x = some r → x' = some r' → P r r'
noncomputable def PE (r r' : gO) : Prop := r'.1 = r.1 ∧ r'.2.1 = r.2.1 ∧ r'.2.2.1 = r.2.2.1 ∧ Eq8 r.2.2.2 r'.2.2.2
noncomputable def PS {σ Q : Type} (R : σ → σ → Prop) (P : Q → Q → Prop) : σ ⊕ Q → σ ⊕ Q → Prop
  | Sum.inl y, Sum.inl y' => R y y'
  | Sum.inr r, Sum.inr r' => P r r'
  | _, _ => False
section GG
variable {Q : Type} {P : Q → Q → Prop} {x x' y y' : Option Q} {s s' : gS}
theorem E_R (h : Eq8 s s') (a k : Nat) : gR s' a k = gR s a k := by unfold gR; rw [h.1.2.2]
theorem E_i (h : Eq8 s s') (k : Nat) : gI s' 217 k = gI s 217 k := h.2.2 217 k (by decide)
theorem E_1 (h : Eq8 s s') (k : Nat) : gI s' (gR s 217 1) k = gI s (gR s 217 1) k := h.2.2 _ k (by rw [h.2.1.1]; decide)
theorem E_7 (h : Eq8 s s') (k : Nat) : gI s' (gR s 217 7) k = gI s (gR s 217 7) k := h.2.2 _ k (by rw [h.2.1.2.1]; decide)
theorem E_14 (h : Eq8 s s') (k : Nat) : gI s' (gR s 217 14) k = gI s (gR s 217 14) k := h.2.2 _ k (by rw [h.2.1.2.2]; decide)
theorem E_w {a k : Nat} {v : Int} (h : Eq8 s s') : Eq8 (gw s a k v) (gw s' a k v) := by
  refine ⟨h.1, h.2.1, fun b j hb => ?_⟩
  show (if b = a ∧ j = k then v else gI s' b j) = (if b = a ∧ j = k then v else gI s b j)
  rw [h.2.2 b j hb]
theorem gG_ret {r r' : Q} (h : P r r') : gG P (some r) (some r') := fun q q' e e' => by cases e; cases e'; exact h
theorem gG_none : gG P (none : Option Q) x' := fun q q' e => by cases e
theorem gG_ite {c : Prop} [Decidable c] (h1 : gG P x x') (h2 : gG P y y') : gG P (if c then x else y) (if c then x' else y') := by
  by_cases h : c
  · rw [if_pos h, if_pos h]; exact h1
  · rw [if_neg h, if_neg h]; exact h2
theorem gG_chk {j n : Int} (k : gG P x x') : gG P (gchk j n x) (gchk j n x') := by
  unfold gchk
  exact gG_ite k gG_none
theorem gG_bool {v : Int} (k : gG P x x') : gG P (gbool v x) (gbool v x') := by
  unfold gbool
  exact gG_ite k gG_none
theorem gG_map {R : Type} {f : Q → R} {P : R → R → Prop} (h : gG (fun r r' => P (f r) (f r')) x x') : gG P (x.map f) (x'.map f) := by
  intro q q' e e'
  cases x with
  | none => cases e
  | some r =>
    cases x' with
    | none => cases e'
    | some r' => cases e; cases e'; exact h r r' rfl rfl
theorem gG_v0 {z z' : Option gO} {E E' : gS → Option Q} (h : gG PE z z') (k : ∀ s s', Eq8 s s' → gG P (E s) (E' s')) : gG P (z.bind (gv0 E)) (z'.bind (gv0 E')) := by
  cases z with
  | none => exact gG_none
  | some r =>
    cases z' with
    | none => intro q q' e e'; cases e'
    | some r' =>
      obtain ⟨h1, h2, h3, h4⟩ := h r r' rfl rfl
      show gG P (gv0 E r) (gv0 E' r')
      unfold gv0
      rw [h1]
      exact gG_ite (k _ _ h4) gG_none
theorem gG_v1 {z z' : Option gO} {E E' : Int → gS → Option Q} (h : gG PE z z') (k : ∀ v s s', Eq8 s s' → gG P (E v s) (E' v s')) : gG P (z.bind (gv1 E)) (z'.bind (gv1 E')) := by
  cases z with
  | none => exact gG_none
  | some r =>
    cases z' with
    | none => intro q q' e e'; cases e'
    | some r' =>
      obtain ⟨h1, h2, h3, h4⟩ := h r r' rfl rfl
      show gG P (gv1 E r) (gv1 E' r')
      unfold gv1
      rw [h1, h2]
      exact gG_ite (k _ _ _ h4) gG_none
theorem gloop_out {σ : Type} {step : σ → Option (σ ⊕ Q)} {y : σ} {r : Q} (h : gloop step y = some r) : ∃ n, giter step n y = some r := by
  unfold gloop at h
  by_cases hx : ∃ r n, giter step n y = some r
  · rw [dif_pos hx] at h
    cases h
    exact hx.choose_spec
  · rw [dif_neg hx] at h
    cases h
theorem gG_loop {σ : Type} {step step' : σ → Option (σ ⊕ Q)} (R : σ → σ → Prop) (h : ∀ y y', R y y' → gG (PS R P) (step y) (step' y')) {y y' : σ} (h0 : R y y') : gG P (gloop step y) (gloop step' y') := by
  intro r r' e e'
  obtain ⟨n, hn0⟩ := gloop_out e
  obtain ⟨m, hm0⟩ := gloop_out e'
  have hn := giter_le hn0 (Nat.le_max_left n m)
  have hm := giter_le hm0 (Nat.le_max_right n m)
  clear e e' hn0 hm0
  generalize max n m = k at hn hm
  induction k generalizing y y' with
  | zero => cases hn
  | succ k ih =>
    have hn : (step y).bind (Sum.elim (giter step k) some) = some r := hn
    have hm : (step' y').bind (Sum.elim (giter step' k) some) = some r' := hm
    have hs := h y y' h0
    cases e1 : step y with
    | none => rw [e1] at hn; cases hn
    | some q =>
      cases e2 : step' y' with
      | none => rw [e2] at hm; cases hm
      | some q' =>
        have hq := hs q q' e1 e2
        rw [e1] at hn
        rw [e2] at hm
        cases q with
        | inl z =>
          cases q' with
          | inl z' => exact ih hq hn hm
          | inr _ => exact hq.elim
        | inr z =>
          cases q' with
          | inl _ => exact hq.elim
          | inr z' =>
            cases hn
            cases hm
            exact hq
end GG
theorem n_266 {a : Nat} {s s' : gS} (h : Eq8 s s') : gG PE (f_266 a s) (f_266 a s') := gG_ret ⟨rfl, rfl, rfl, h⟩
theorem n_267 {a : Nat} {j : Int} {s s' : gS} (h : Eq8 s s') : gG PE (f_267 a j s) (f_267 a j s') := gG_chk (gG_ret ⟨rfl, rfl, rfl, h⟩)

theorem n_150  {a0 : Int} {a1 : Int} {a2 : Int} {s s' : gS}  (h : Eq8 s s') : gG PE (f_150 a0 a1 a2 s) (f_150 a0 a1 a2 s') := by
  unfold f_150
  try simp only [E_R h, E_i h, E_1 h, E_7 h, E_14 h]
  refine gG_ite ?_ ?_
  · unfold fb_150_14
    try simp only [E_R h, E_i h, E_1 h, E_7 h, E_14 h]
    exact gG_ret ⟨rfl, rfl, rfl, h⟩
  · refine gG_ite ?_ ?_
    · unfold fb_150_14
      try simp only [E_R h, E_i h, E_1 h, E_7 h, E_14 h]
      exact gG_ret ⟨rfl, rfl, rfl, h⟩
    · exact gG_ret ⟨rfl, rfl, rfl, h⟩

theorem n_153  {a0 : Int} {a1 : Int} {s s' : gS}  (h : Eq8 s s') : gG PE (f_153 a0 a1 s) (f_153 a0 a1 s') := by
  unfold f_153
  try simp only [E_R h, E_i h, E_1 h, E_7 h, E_14 h]
  refine gG_ite ?_ ?_
  · exact gG_ret ⟨rfl, rfl, rfl, h⟩
  · exact gG_ret ⟨rfl, rfl, rfl, h⟩

theorem n_157  {a1 : Int} {a2 : Int} {a3 : Int} {s s' : gS}  (h : Eq8 s s') : gG PE (f_157 217 a1 a2 a3 s) (f_157 217 a1 a2 a3 s') := by
  unfold f_157
  dsimp only
  try simp only [E_R h, E_i h, E_1 h, E_7 h, E_14 h]
  have hs10 : Eq8 (gw s (gR s 217 1) ((g32 ((g32 (40 + (g32 (6 * a1)))) + a2)) : Int).toNat a3) (gw s' (gR s 217 1) ((g32 ((g32 (40 + (g32 (6 * a1)))) + a2)) : Int).toNat a3) := (E_w h)
  try simp only [E_R hs10, E_i hs10, E_1 hs10, E_7 hs10, E_14 hs10]
  refine gG_chk ?_
  exact gG_ret ⟨rfl, rfl, rfl, hs10⟩

theorem n_168  {a1 : Int} {s s' : gS}  (h : Eq8 s s') : gG PE (f_168 217 a1 s) (f_168 217 a1 s') := by
  unfold f_168
  try simp only [E_R h, E_i h, E_1 h, E_7 h, E_14 h]
  refine gG_ite ?_ ?_
  · refine gG_chk ?_
    exact gG_ret ⟨rfl, rfl, rfl, h⟩
  · refine gG_chk ?_
    exact gG_ret ⟨rfl, rfl, rfl, h⟩

theorem n_169   {s s' : gS}  (h : Eq8 s s') : gG PE (f_169 217 s) (f_169 217 s') := by
  unfold f_169
  try simp only [E_R h, E_i h, E_1 h, E_7 h, E_14 h]
  refine gG_loop (fun y y' => y.1 = 217 ∧ y.1 = y'.1 ∧ Eq8 y.2 y'.2) (fun y y' hy => ?_) ⟨rfl, rfl, h⟩
  obtain ⟨x0, u12⟩ := y
  obtain ⟨z11, u12p⟩ := y'
  obtain ⟨e15, e13, h14⟩ := hy
  dsimp only at e15 e13 h14
  subst e13 e15
  show gG _ (sb_169_0 217 u12) (sb_169_0 217 u12p)
  unfold sb_169_0
  dsimp only
  try simp only [E_R h14, E_i h14, E_1 h14, E_7 h14, E_14 h14]
  refine gG_ite ?_ ?_
  · refine gG_v1 (n_168 h14) (fun v2 s1 s1p h16 => ?_)
    try simp only [E_R h16, E_i h16, E_1 h16, E_7 h16, E_14 h16]
    have hs17 : Eq8 (gw s1 217 11 (g32 ((gI s1 217 11) + 1))) (gw s1p 217 11 (g32 ((gI s1 217 11) + 1))) := (E_w h16)
    try simp only [E_R hs17, E_i hs17, E_1 hs17, E_7 hs17, E_14 hs17]
    refine gG_ite ?_ ?_
    · exact gG_ret ⟨rfl, rfl, hs17⟩
    · refine gG_map ?_
      exact gG_ret ⟨rfl, rfl, rfl, h16⟩
  · refine gG_map ?_
    exact gG_ret ⟨rfl, rfl, rfl, h14⟩

theorem n_170  {a1 : Int} {s s' : gS}  (h : Eq8 s s') : gG PE (f_170 217 a1 s) (f_170 217 a1 s') := by
  unfold f_170
  try simp only [E_R h, E_i h, E_1 h, E_7 h, E_14 h]
  refine gG_v0 (n_169 h) (fun s1 s1p h18 => ?_)
  try simp only [E_R h18, E_i h18, E_1 h18, E_7 h18, E_14 h18]
  refine gG_ite ?_ ?_
  · refine gG_v1 (n_168 h18) (fun v4 s3 s3p h19 => ?_)
    try simp only [E_R h19, E_i h19, E_1 h19, E_7 h19, E_14 h19]
    refine gG_ite ?_ ?_
    · exact gG_ret ⟨rfl, rfl, rfl, h19⟩
    · unfold fb_170_31
      try simp only [E_R h19, E_i h19, E_1 h19, E_7 h19, E_14 h19]
      exact gG_ret ⟨rfl, rfl, rfl, h19⟩
  · unfold fb_170_31
    try simp only [E_R h18, E_i h18, E_1 h18, E_7 h18, E_14 h18]
    exact gG_ret ⟨rfl, rfl, rfl, h18⟩

theorem n_171  {a1 : Nat} {s s' : gS}  (h : Eq8 s s') : gG PE (f_171 217 a1 s) (f_171 217 a1 s') := by
  unfold f_171
  try simp only [E_R h, E_i h, E_1 h, E_7 h, E_14 h]
  refine gG_v0 (n_169 h) (fun s1 s1p h20 => ?_)
  try simp only [E_R h20, E_i h20, E_1 h20, E_7 h20, E_14 h20]
  refine gG_loop (fun y y' => y.1 = 217 ∧ y.1 = y'.1 ∧ y.2.1 = y'.2.1 ∧ y.2.2.1 = y'.2.2.1 ∧ Eq8 y.2.2.2 y'.2.2.2) (fun y y' hy => ?_) ⟨rfl, rfl, rfl, rfl, h20⟩
  obtain ⟨x0, x1, x2, u24⟩ := y
  obtain ⟨z21, z22, z23, u24p⟩ := y'
  obtain ⟨e29, e25, e26, e27, h28⟩ := hy
  dsimp only at e29 e25 e26 e27 h28
  subst e25 e26 e27 e29
  show gG _ (sb_171_9 217 x1 x2 u24) (sb_171_9 217 x1 x2 u24p)
  unfold sb_171_9
  try simp only [E_R h28, E_i h28, E_1 h28, E_7 h28, E_14 h28]
  refine gG_ite ?_ ?_
  · refine gG_v1 (n_168 h28) (fun v4 s3 s3p h30 => ?_)
    try simp only [E_R h30, E_i h30, E_1 h30, E_7 h30, E_14 h30]
    refine gG_v1 (n_150 h30) (fun v6 s5 s5p h31 => ?_)
    try simp only [E_R h31, E_i h31, E_1 h31, E_7 h31, E_14 h31]
    refine gG_ite ?_ ?_
    · refine gG_map ?_
      unfold fb_171_38
      try simp only [E_R h31, E_i h31, E_1 h31, E_7 h31, E_14 h31]
      refine gG_v1 (n_266 h31) (fun v9 s8 s8p h32 => ?_)
      try simp only [E_R h32, E_i h32, E_1 h32, E_7 h32, E_14 h32]
      refine gG_ite ?_ ?_
      · refine gG_loop (fun y y' => y.1 = 217 ∧ y.1 = y'.1 ∧ y.2.1 = y'.2.1 ∧ y.2.2.1 = y'.2.2.1 ∧ y.2.2.2.1 = y'.2.2.2.1 ∧ Eq8 y.2.2.2.2 y'.2.2.2.2) (fun y y' hy => ?_) ⟨rfl, rfl, rfl, rfl, rfl, h32⟩
        obtain ⟨x0, x1, x2, x3, u37⟩ := y
        obtain ⟨z33, z34, z35, z36, u37p⟩ := y'
        obtain ⟨e43, e38, e39, e40, e41, h42⟩ := hy
        dsimp only at e43 e38 e39 e40 e41 h42
        subst e38 e39 e40 e41 e43
        show gG _ (sb_171_55 217 x1 x2 x3 u37) (sb_171_55 217 x1 x2 x3 u37p)
        unfold sb_171_55
        dsimp only
        try simp only [E_R h42, E_i h42, E_1 h42, E_7 h42, E_14 h42]
        refine gG_v1 (n_266 h42) (fun v11 s10 s10p h44 => ?_)
        try simp only [E_R h44, E_i h44, E_1 h44, E_7 h44, E_14 h44]
        have hs45 : Eq8 (gw s10 217 11 x2) (gw s10p 217 11 x2) := (E_w h44)
        try simp only [E_R hs45, E_i hs45, E_1 hs45, E_7 hs45, E_14 hs45]
        refine gG_ite ?_ ?_
        · refine gG_v1 (n_168 h44) (fun v13 s12 s12p h46 => ?_)
          try simp only [E_R h46, E_i h46, E_1 h46, E_7 h46, E_14 h46]
          refine gG_v1 (n_267 h46) (fun v15 s14 s14p h47 => ?_)
          try simp only [E_R h47, E_i h47, E_1 h47, E_7 h47, E_14 h47]
          refine gG_ite ?_ ?_
          · exact gG_ret ⟨rfl, rfl, rfl, rfl, rfl, h47⟩
          · refine gG_map ?_
            exact gG_ret ⟨rfl, rfl, rfl, h47⟩
        · refine gG_map ?_
          exact gG_ret ⟨rfl, rfl, rfl, hs45⟩
      · exact gG_ret ⟨rfl, rfl, rfl, h32⟩
    · exact gG_ret ⟨rfl, rfl, rfl, rfl, h31⟩
  · refine gG_map ?_
    unfold fb_171_38
    try simp only [E_R h28, E_i h28, E_1 h28, E_7 h28, E_14 h28]
    refine gG_v1 (n_266 h28) (fun v9 s8 s8p h48 => ?_)
    try simp only [E_R h48, E_i h48, E_1 h48, E_7 h48, E_14 h48]
    refine gG_ite ?_ ?_
    · refine gG_loop (fun y y' => y.1 = 217 ∧ y.1 = y'.1 ∧ y.2.1 = y'.2.1 ∧ y.2.2.1 = y'.2.2.1 ∧ y.2.2.2.1 = y'.2.2.2.1 ∧ Eq8 y.2.2.2.2 y'.2.2.2.2) (fun y y' hy => ?_) ⟨rfl, rfl, rfl, rfl, rfl, h48⟩
      obtain ⟨x0, x1, x2, x3, u53⟩ := y
      obtain ⟨z49, z50, z51, z52, u53p⟩ := y'
      obtain ⟨e59, e54, e55, e56, e57, h58⟩ := hy
      dsimp only at e59 e54 e55 e56 e57 h58
      subst e54 e55 e56 e57 e59
      show gG _ (sb_171_55 217 x1 x2 x3 u53) (sb_171_55 217 x1 x2 x3 u53p)
      unfold sb_171_55
      dsimp only
      try simp only [E_R h58, E_i h58, E_1 h58, E_7 h58, E_14 h58]
      refine gG_v1 (n_266 h58) (fun v11 s10 s10p h60 => ?_)
      try simp only [E_R h60, E_i h60, E_1 h60, E_7 h60, E_14 h60]
      have hs61 : Eq8 (gw s10 217 11 x2) (gw s10p 217 11 x2) := (E_w h60)
      try simp only [E_R hs61, E_i hs61, E_1 hs61, E_7 hs61, E_14 hs61]
      refine gG_ite ?_ ?_
      · refine gG_v1 (n_168 h60) (fun v13 s12 s12p h62 => ?_)
        try simp only [E_R h62, E_i h62, E_1 h62, E_7 h62, E_14 h62]
        refine gG_v1 (n_267 h62) (fun v15 s14 s14p h63 => ?_)
        try simp only [E_R h63, E_i h63, E_1 h63, E_7 h63, E_14 h63]
        refine gG_ite ?_ ?_
        · exact gG_ret ⟨rfl, rfl, rfl, rfl, rfl, h63⟩
        · refine gG_map ?_
          exact gG_ret ⟨rfl, rfl, rfl, h63⟩
      · refine gG_map ?_
        exact gG_ret ⟨rfl, rfl, rfl, hs61⟩
    · exact gG_ret ⟨rfl, rfl, rfl, h48⟩

theorem n_172  {a1 : Int} {s s' : gS}  (h : Eq8 s s') : gG PE (f_172 217 a1 s) (f_172 217 a1 s') := by
  unfold f_172
  dsimp only
  try simp only [E_R h, E_i h, E_1 h, E_7 h, E_14 h]
  have hs64 : Eq8 (gw s 217 12 a1) (gw s' 217 12 a1) := (E_w h)
  try simp only [E_R hs64, E_i hs64, E_1 hs64, E_7 hs64, E_14 hs64]
  refine gG_ite ?_ ?_
  · exact gG_ret ⟨rfl, rfl, rfl, hs64⟩
  · exact gG_ret ⟨rfl, rfl, rfl, h⟩

theorem n_173   {s s' : gS}  (h : Eq8 s s') : gG PE (f_173 217 s) (f_173 217 s') := by
  unfold f_173
  try simp only [E_R h, E_i h, E_1 h, E_7 h, E_14 h]
  refine gG_v0 (n_169 h) (fun s1 s1p h65 => ?_)
  try simp only [E_R h65, E_i h65, E_1 h65, E_7 h65, E_14 h65]
  exact gG_ret ⟨rfl, rfl, rfl, h65⟩

theorem n_174  {a1 : Int} {a2 : Int} {s s' : gS}  (h : Eq8 s s') : gG PE (f_174 217 a1 a2 s) (f_174 217 a1 a2 s') := by
  unfold f_174
  try simp only [E_R h, E_i h, E_1 h, E_7 h, E_14 h]
  refine gG_ite ?_ ?_
  · refine gG_v1 (n_173 h) (fun v2 s1 s1p h66 => ?_)
    try simp only [E_R h66, E_i h66, E_1 h66, E_7 h66, E_14 h66]
    refine gG_loop (fun y y' => y.1 = 217 ∧ y.1 = y'.1 ∧ y.2.1 = y'.2.1 ∧ y.2.2.1 = y'.2.2.1 ∧ y.2.2.2.1 = y'.2.2.2.1 ∧ y.2.2.2.2.1 = y'.2.2.2.2.1 ∧ Eq8 y.2.2.2.2.2 y'.2.2.2.2.2) (fun y y' hy => ?_) ⟨rfl, rfl, rfl, rfl, rfl, rfl, h66⟩
    obtain ⟨x0, x1, x2, x3, x4, u72⟩ := y
    obtain ⟨z67, z68, z69, z70, z71, u72p⟩ := y'
    obtain ⟨e79, e73, e74, e75, e76, e77, h78⟩ := hy
    dsimp only at e79 e73 e74 e75 e76 e77 h78
    subst e73 e74 e75 e76 e77 e79
    show gG _ (sb_174_18 217 x1 x2 x3 x4 u72) (sb_174_18 217 x1 x2 x3 x4 u72p)
    unfold sb_174_18
    dsimp only
    try simp only [E_R h78, E_i h78, E_1 h78, E_7 h78, E_14 h78]
    refine gG_ite ?_ ?_
    · refine gG_v1 (n_168 h78) (fun v4 s3 s3p h80 => ?_)
      try simp only [E_R h80, E_i h80, E_1 h80, E_7 h80, E_14 h80]
      refine gG_v1 (n_150 h80) (fun v6 s5 s5p h81 => ?_)
      try simp only [E_R h81, E_i h81, E_1 h81, E_7 h81, E_14 h81]
      refine gG_ite ?_ ?_
      · refine gG_map ?_
        unfold fb_174_89
        try simp only [E_R h81, E_i h81, E_1 h81, E_7 h81, E_14 h81]
        refine gG_ite ?_ ?_
        · unfold fb_174_119
          try simp only [E_R h81, E_i h81, E_1 h81, E_7 h81, E_14 h81]
          refine gG_v0 (n_172 h81) (fun s8 s8p h82 => ?_)
          try simp only [E_R h82, E_i h82, E_1 h82, E_7 h82, E_14 h82]
          exact gG_ret ⟨rfl, rfl, rfl, h82⟩
        · refine gG_ite ?_ ?_
          · unfold fb_174_119
            try simp only [E_R h81, E_i h81, E_1 h81, E_7 h81, E_14 h81]
            refine gG_v0 (n_172 h81) (fun s8 s8p h83 => ?_)
            try simp only [E_R h83, E_i h83, E_1 h83, E_7 h83, E_14 h83]
            exact gG_ret ⟨rfl, rfl, rfl, h83⟩
          · refine gG_ite ?_ ?_
            · unfold fb_174_119
              try simp only [E_R h81, E_i h81, E_1 h81, E_7 h81, E_14 h81]
              refine gG_v0 (n_172 h81) (fun s8 s8p h84 => ?_)
              try simp only [E_R h84, E_i h84, E_1 h84, E_7 h84, E_14 h84]
              exact gG_ret ⟨rfl, rfl, rfl, h84⟩
            · refine gG_ite ?_ ?_
              · unfold fb_174_119
                try simp only [E_R h81, E_i h81, E_1 h81, E_7 h81, E_14 h81]
                refine gG_v0 (n_172 h81) (fun s8 s8p h85 => ?_)
                try simp only [E_R h85, E_i h85, E_1 h85, E_7 h85, E_14 h85]
                exact gG_ret ⟨rfl, rfl, rfl, h85⟩
              · exact gG_ret ⟨rfl, rfl, rfl, h81⟩
      · refine gG_ite ?_ ?_
        · refine gG_map ?_
          unfold fb_174_89
          try simp only [E_R h81, E_i h81, E_1 h81, E_7 h81, E_14 h81]
          refine gG_ite ?_ ?_
          · unfold fb_174_119
            try simp only [E_R h81, E_i h81, E_1 h81, E_7 h81, E_14 h81]
            refine gG_v0 (n_172 h81) (fun s8 s8p h86 => ?_)
            try simp only [E_R h86, E_i h86, E_1 h86, E_7 h86, E_14 h86]
            exact gG_ret ⟨rfl, rfl, rfl, h86⟩
          · refine gG_ite ?_ ?_
            · unfold fb_174_119
              try simp only [E_R h81, E_i h81, E_1 h81, E_7 h81, E_14 h81]
              refine gG_v0 (n_172 h81) (fun s8 s8p h87 => ?_)
              try simp only [E_R h87, E_i h87, E_1 h87, E_7 h87, E_14 h87]
              exact gG_ret ⟨rfl, rfl, rfl, h87⟩
            · refine gG_ite ?_ ?_
              · unfold fb_174_119
                try simp only [E_R h81, E_i h81, E_1 h81, E_7 h81, E_14 h81]
                refine gG_v0 (n_172 h81) (fun s8 s8p h88 => ?_)
                try simp only [E_R h88, E_i h88, E_1 h88, E_7 h88, E_14 h88]
                exact gG_ret ⟨rfl, rfl, rfl, h88⟩
              · refine gG_ite ?_ ?_
                · unfold fb_174_119
                  try simp only [E_R h81, E_i h81, E_1 h81, E_7 h81, E_14 h81]
                  refine gG_v0 (n_172 h81) (fun s8 s8p h89 => ?_)
                  try simp only [E_R h89, E_i h89, E_1 h89, E_7 h89, E_14 h89]
                  exact gG_ret ⟨rfl, rfl, rfl, h89⟩
                · exact gG_ret ⟨rfl, rfl, rfl, h81⟩
        · refine gG_v1 (n_168 h81) (fun v11 s10 s10p h90 => ?_)
          try simp only [E_R h90, E_i h90, E_1 h90, E_7 h90, E_14 h90]
          have hs91 : Eq8 (gw s10 217 11 (g32 ((gI s10 217 11) + 1))) (gw s10p 217 11 (g32 ((gI s10 217 11) + 1))) := (E_w h90)
          try simp only [E_R hs91, E_i hs91, E_1 hs91, E_7 hs91, E_14 hs91]
          exact gG_ret ⟨rfl, rfl, rfl, rfl, rfl, rfl, hs91⟩
    · refine gG_map ?_
      unfold fb_174_89
      try simp only [E_R h78, E_i h78, E_1 h78, E_7 h78, E_14 h78]
      refine gG_ite ?_ ?_
      · unfold fb_174_119
        try simp only [E_R h78, E_i h78, E_1 h78, E_7 h78, E_14 h78]
        refine gG_v0 (n_172 h78) (fun s8 s8p h92 => ?_)
        try simp only [E_R h92, E_i h92, E_1 h92, E_7 h92, E_14 h92]
        exact gG_ret ⟨rfl, rfl, rfl, h92⟩
      · refine gG_ite ?_ ?_
        · unfold fb_174_119
          try simp only [E_R h78, E_i h78, E_1 h78, E_7 h78, E_14 h78]
          refine gG_v0 (n_172 h78) (fun s8 s8p h93 => ?_)
          try simp only [E_R h93, E_i h93, E_1 h93, E_7 h93, E_14 h93]
          exact gG_ret ⟨rfl, rfl, rfl, h93⟩
        · refine gG_ite ?_ ?_
          · unfold fb_174_119
            try simp only [E_R h78, E_i h78, E_1 h78, E_7 h78, E_14 h78]
            refine gG_v0 (n_172 h78) (fun s8 s8p h94 => ?_)
            try simp only [E_R h94, E_i h94, E_1 h94, E_7 h94, E_14 h94]
            exact gG_ret ⟨rfl, rfl, rfl, h94⟩
          · refine gG_ite ?_ ?_
            · unfold fb_174_119
              try simp only [E_R h78, E_i h78, E_1 h78, E_7 h78, E_14 h78]
              refine gG_v0 (n_172 h78) (fun s8 s8p h95 => ?_)
              try simp only [E_R h95, E_i h95, E_1 h95, E_7 h95, E_14 h95]
              exact gG_ret ⟨rfl, rfl, rfl, h95⟩
            · exact gG_ret ⟨rfl, rfl, rfl, h78⟩
  · exact gG_ret ⟨rfl, rfl, rfl, h⟩

theorem n_175  {a1 : Nat} {a2 : Int} {a3 : Int} {s s' : gS}  (h : Eq8 s s') : gG PE (f_175 217 a1 a2 a3 s) (f_175 217 a1 a2 a3 s') := by
  unfold f_175
  try simp only [E_R h, E_i h, E_1 h, E_7 h, E_14 h]
  refine gG_ite ?_ ?_
  · refine gG_v1 (n_171 h) (fun v2 s1 s1p h96 => ?_)
    try simp only [E_R h96, E_i h96, E_1 h96, E_7 h96, E_14 h96]
    refine gG_ite ?_ ?_
    · refine gG_v0 (n_172 h96) (fun s4 s4p h97 => ?_)
      try simp only [E_R h97, E_i h97, E_1 h97, E_7 h97, E_14 h97]
      unfold fb_175_24
      try simp only [E_R h97, E_i h97, E_1 h97, E_7 h97, E_14 h97]
      refine gG_v1 (n_174 h97) (fun v7 s6 s6p h98 => ?_)
      try simp only [E_R h98, E_i h98, E_1 h98, E_7 h98, E_14 h98]
      exact gG_ret ⟨rfl, rfl, rfl, h98⟩
    · unfold fb_175_24
      try simp only [E_R h96, E_i h96, E_1 h96, E_7 h96, E_14 h96]
      refine gG_v1 (n_174 h96) (fun v7 s6 s6p h99 => ?_)
      try simp only [E_R h99, E_i h99, E_1 h99, E_7 h99, E_14 h99]
      exact gG_ret ⟨rfl, rfl, rfl, h99⟩
  · unfold fb_175_24
    try simp only [E_R h, E_i h, E_1 h, E_7 h, E_14 h]
    refine gG_v1 (n_174 h) (fun v7 s6 s6p h100 => ?_)
    try simp only [E_R h100, E_i h100, E_1 h100, E_7 h100, E_14 h100]
    exact gG_ret ⟨rfl, rfl, rfl, h100⟩

theorem n_176  {a1 : Nat} {s s' : gS}  (h : Eq8 s s') : gG PE (f_176 217 a1 s) (f_176 217 a1 s') := by
  unfold f_176
  try simp only [E_R h, E_i h, E_1 h, E_7 h, E_14 h]
  refine gG_ite ?_ ?_
  · refine gG_v1 (n_171 h) (fun v2 s1 s1p h101 => ?_)
    try simp only [E_R h101, E_i h101, E_1 h101, E_7 h101, E_14 h101]
    refine gG_ite ?_ ?_
    · refine gG_v0 (n_172 h101) (fun s4 s4p h102 => ?_)
      try simp only [E_R h102, E_i h102, E_1 h102, E_7 h102, E_14 h102]
      unfold fb_176_24
      try simp only [E_R h102, E_i h102, E_1 h102, E_7 h102, E_14 h102]
      refine gG_ite ?_ ?_
      · refine gG_v1 (n_173 h102) (fun v7 s6 s6p h103 => ?_)
        try simp only [E_R h103, E_i h103, E_1 h103, E_7 h103, E_14 h103]
        refine gG_loop (fun y y' => y.1 = 217 ∧ y.1 = y'.1 ∧ y.2.1 = y'.2.1 ∧ y.2.2.1 = y'.2.2.1 ∧ y.2.2.2.1 = y'.2.2.2.1 ∧ Eq8 y.2.2.2.2 y'.2.2.2.2) (fun y y' hy => ?_) ⟨rfl, rfl, rfl, rfl, rfl, h103⟩
        obtain ⟨x0, x2, x3, x4, u108⟩ := y
        obtain ⟨z104, z105, z106, z107, u108p⟩ := y'
        obtain ⟨e114, e109, e110, e111, e112, h113⟩ := hy
        dsimp only at e114 e109 e110 e111 e112 h113
        subst e109 e110 e111 e112 e114
        show gG _ (sb_176_44 217 x2 x3 x4 u108) (sb_176_44 217 x2 x3 x4 u108p)
        unfold sb_176_44
        try simp only [E_R h113, E_i h113, E_1 h113, E_7 h113, E_14 h113]
        refine gG_ite ?_ ?_
        · refine gG_v1 (n_168 h113) (fun v9 s8 s8p h115 => ?_)
          try simp only [E_R h115, E_i h115, E_1 h115, E_7 h115, E_14 h115]
          refine gG_v1 (n_150 h115) (fun v11 s10 s10p h116 => ?_)
          try simp only [E_R h116, E_i h116, E_1 h116, E_7 h116, E_14 h116]
          refine gG_ite ?_ ?_
          · refine gG_map ?_
            unfold fb_176_145
            try simp only [E_R h116, E_i h116, E_1 h116, E_7 h116, E_14 h116]
            refine gG_ite ?_ ?_
            · unfold fb_176_154
              try simp only [E_R h116, E_i h116, E_1 h116, E_7 h116, E_14 h116]
              refine gG_v0 (n_172 h116) (fun s13 s13p h117 => ?_)
              try simp only [E_R h117, E_i h117, E_1 h117, E_7 h117, E_14 h117]
              exact gG_ret ⟨rfl, rfl, rfl, h117⟩
            · refine gG_ite ?_ ?_
              · unfold fb_176_154
                try simp only [E_R h116, E_i h116, E_1 h116, E_7 h116, E_14 h116]
                refine gG_v0 (n_172 h116) (fun s13 s13p h118 => ?_)
                try simp only [E_R h118, E_i h118, E_1 h118, E_7 h118, E_14 h118]
                exact gG_ret ⟨rfl, rfl, rfl, h118⟩
              · exact gG_ret ⟨rfl, rfl, rfl, h116⟩
          · refine gG_v1 (n_168 h116) (fun v16 s15 s15p h119 => ?_)
            try simp only [E_R h119, E_i h119, E_1 h119, E_7 h119, E_14 h119]
            refine gG_ite ?_ ?_
            · unfold fb_176_111
              try simp only [E_R h119, E_i h119, E_1 h119, E_7 h119, E_14 h119]
              unfold fb_176_112
              try simp only [E_R h119, E_i h119, E_1 h119, E_7 h119, E_14 h119]
              refine gG_ite ?_ ?_
              · unfold fb_176_130
                dsimp only
                try simp only [E_R h119, E_i h119, E_1 h119, E_7 h119, E_14 h119]
                have hs120 : Eq8 (gw s15 217 11 (g32 ((gI s15 217 11) + 1))) (gw s15p 217 11 (g32 ((gI s15 217 11) + 1))) := (E_w h119)
                try simp only [E_R hs120, E_i hs120, E_1 hs120, E_7 hs120, E_14 hs120]
                exact gG_ret ⟨rfl, rfl, rfl, rfl, rfl, hs120⟩
              · unfold fb_176_130
                dsimp only
                try simp only [E_R h119, E_i h119, E_1 h119, E_7 h119, E_14 h119]
                have hs121 : Eq8 (gw s15 217 11 (g32 ((gI s15 217 11) + 1))) (gw s15p 217 11 (g32 ((gI s15 217 11) + 1))) := (E_w h119)
                try simp only [E_R hs121, E_i hs121, E_1 hs121, E_7 hs121, E_14 hs121]
                exact gG_ret ⟨rfl, rfl, rfl, rfl, rfl, hs121⟩
            · refine gG_ite ?_ ?_
              · refine gG_v1 (n_153 h119) (fun v19 s18 s18p h122 => ?_)
                try simp only [E_R h122, E_i h122, E_1 h122, E_7 h122, E_14 h122]
                refine gG_ite ?_ ?_
                · unfold fb_176_112
                  try simp only [E_R h122, E_i h122, E_1 h122, E_7 h122, E_14 h122]
                  refine gG_ite ?_ ?_
                  · unfold fb_176_130
                    dsimp only
                    try simp only [E_R h122, E_i h122, E_1 h122, E_7 h122, E_14 h122]
                    have hs123 : Eq8 (gw s18 217 11 (g32 ((gI s18 217 11) + 1))) (gw s18p 217 11 (g32 ((gI s18 217 11) + 1))) := (E_w h122)
                    try simp only [E_R hs123, E_i hs123, E_1 hs123, E_7 hs123, E_14 hs123]
                    exact gG_ret ⟨rfl, rfl, rfl, rfl, rfl, hs123⟩
                  · unfold fb_176_130
                    dsimp only
                    try simp only [E_R h122, E_i h122, E_1 h122, E_7 h122, E_14 h122]
                    have hs124 : Eq8 (gw s18 217 11 (g32 ((gI s18 217 11) + 1))) (gw s18p 217 11 (g32 ((gI s18 217 11) + 1))) := (E_w h122)
                    try simp only [E_R hs124, E_i hs124, E_1 hs124, E_7 hs124, E_14 hs124]
                    exact gG_ret ⟨rfl, rfl, rfl, rfl, rfl, hs124⟩
                · unfold fb_176_111
                  try simp only [E_R h122, E_i h122, E_1 h122, E_7 h122, E_14 h122]
                  unfold fb_176_112
                  try simp only [E_R h122, E_i h122, E_1 h122, E_7 h122, E_14 h122]
                  refine gG_ite ?_ ?_
                  · unfold fb_176_130
                    dsimp only
                    try simp only [E_R h122, E_i h122, E_1 h122, E_7 h122, E_14 h122]
                    have hs125 : Eq8 (gw s18 217 11 (g32 ((gI s18 217 11) + 1))) (gw s18p 217 11 (g32 ((gI s18 217 11) + 1))) := (E_w h122)
                    try simp only [E_R hs125, E_i hs125, E_1 hs125, E_7 hs125, E_14 hs125]
                    exact gG_ret ⟨rfl, rfl, rfl, rfl, rfl, hs125⟩
                  · unfold fb_176_130
                    dsimp only
                    try simp only [E_R h122, E_i h122, E_1 h122, E_7 h122, E_14 h122]
                    have hs126 : Eq8 (gw s18 217 11 (g32 ((gI s18 217 11) + 1))) (gw s18p 217 11 (g32 ((gI s18 217 11) + 1))) := (E_w h122)
                    try simp only [E_R hs126, E_i hs126, E_1 hs126, E_7 hs126, E_14 hs126]
                    exact gG_ret ⟨rfl, rfl, rfl, rfl, rfl, hs126⟩
              · unfold fb_176_111
                try simp only [E_R h119, E_i h119, E_1 h119, E_7 h119, E_14 h119]
                unfold fb_176_112
                try simp only [E_R h119, E_i h119, E_1 h119, E_7 h119, E_14 h119]
                refine gG_ite ?_ ?_
                · unfold fb_176_130
                  dsimp only
                  try simp only [E_R h119, E_i h119, E_1 h119, E_7 h119, E_14 h119]
                  have hs127 : Eq8 (gw s15 217 11 (g32 ((gI s15 217 11) + 1))) (gw s15p 217 11 (g32 ((gI s15 217 11) + 1))) := (E_w h119)
                  try simp only [E_R hs127, E_i hs127, E_1 hs127, E_7 hs127, E_14 hs127]
                  exact gG_ret ⟨rfl, rfl, rfl, rfl, rfl, hs127⟩
                · unfold fb_176_130
                  dsimp only
                  try simp only [E_R h119, E_i h119, E_1 h119, E_7 h119, E_14 h119]
                  have hs128 : Eq8 (gw s15 217 11 (g32 ((gI s15 217 11) + 1))) (gw s15p 217 11 (g32 ((gI s15 217 11) + 1))) := (E_w h119)
                  try simp only [E_R hs128, E_i hs128, E_1 hs128, E_7 hs128, E_14 hs128]
                  exact gG_ret ⟨rfl, rfl, rfl, rfl, rfl, hs128⟩
        · refine gG_map ?_
          unfold fb_176_145
          try simp only [E_R h113, E_i h113, E_1 h113, E_7 h113, E_14 h113]
          refine gG_ite ?_ ?_
          · unfold fb_176_154
            try simp only [E_R h113, E_i h113, E_1 h113, E_7 h113, E_14 h113]
            refine gG_v0 (n_172 h113) (fun s13 s13p h129 => ?_)
            try simp only [E_R h129, E_i h129, E_1 h129, E_7 h129, E_14 h129]
            exact gG_ret ⟨rfl, rfl, rfl, h129⟩
          · refine gG_ite ?_ ?_
            · unfold fb_176_154
              try simp only [E_R h113, E_i h113, E_1 h113, E_7 h113, E_14 h113]
              refine gG_v0 (n_172 h113) (fun s13 s13p h130 => ?_)
              try simp only [E_R h130, E_i h130, E_1 h130, E_7 h130, E_14 h130]
              exact gG_ret ⟨rfl, rfl, rfl, h130⟩
            · exact gG_ret ⟨rfl, rfl, rfl, h113⟩
      · exact gG_ret ⟨rfl, rfl, rfl, h102⟩
    · unfold fb_176_24
      try simp only [E_R h101, E_i h101, E_1 h101, E_7 h101, E_14 h101]
      refine gG_ite ?_ ?_
      · refine gG_v1 (n_173 h101) (fun v7 s6 s6p h131 => ?_)
        try simp only [E_R h131, E_i h131, E_1 h131, E_7 h131, E_14 h131]
        refine gG_loop (fun y y' => y.1 = 217 ∧ y.1 = y'.1 ∧ y.2.1 = y'.2.1 ∧ y.2.2.1 = y'.2.2.1 ∧ y.2.2.2.1 = y'.2.2.2.1 ∧ Eq8 y.2.2.2.2 y'.2.2.2.2) (fun y y' hy => ?_) ⟨rfl, rfl, rfl, rfl, rfl, h131⟩
        obtain ⟨x0, x2, x3, x4, u136⟩ := y
        obtain ⟨z132, z133, z134, z135, u136p⟩ := y'
        obtain ⟨e142, e137, e138, e139, e140, h141⟩ := hy
        dsimp only at e142 e137 e138 e139 e140 h141
        subst e137 e138 e139 e140 e142
        show gG _ (sb_176_44 217 x2 x3 x4 u136) (sb_176_44 217 x2 x3 x4 u136p)
        unfold sb_176_44
        try simp only [E_R h141, E_i h141, E_1 h141, E_7 h141, E_14 h141]
        refine gG_ite ?_ ?_
        · refine gG_v1 (n_168 h141) (fun v9 s8 s8p h143 => ?_)
          try simp only [E_R h143, E_i h143, E_1 h143, E_7 h143, E_14 h143]
          refine gG_v1 (n_150 h143) (fun v11 s10 s10p h144 => ?_)
          try simp only [E_R h144, E_i h144, E_1 h144, E_7 h144, E_14 h144]
          refine gG_ite ?_ ?_
          · refine gG_map ?_
            unfold fb_176_145
            try simp only [E_R h144, E_i h144, E_1 h144, E_7 h144, E_14 h144]
            refine gG_ite ?_ ?_
            · unfold fb_176_154
              try simp only [E_R h144, E_i h144, E_1 h144, E_7 h144, E_14 h144]
              refine gG_v0 (n_172 h144) (fun s13 s13p h145 => ?_)
              try simp only [E_R h145, E_i h145, E_1 h145, E_7 h145, E_14 h145]
              exact gG_ret ⟨rfl, rfl, rfl, h145⟩
            · refine gG_ite ?_ ?_
              · unfold fb_176_154
                try simp only [E_R h144, E_i h144, E_1 h144, E_7 h144, E_14 h144]
                refine gG_v0 (n_172 h144) (fun s13 s13p h146 => ?_)
                try simp only [E_R h146, E_i h146, E_1 h146, E_7 h146, E_14 h146]
                exact gG_ret ⟨rfl, rfl, rfl, h146⟩
              · exact gG_ret ⟨rfl, rfl, rfl, h144⟩
          · refine gG_v1 (n_168 h144) (fun v16 s15 s15p h147 => ?_)
            try simp only [E_R h147, E_i h147, E_1 h147, E_7 h147, E_14 h147]
            refine gG_ite ?_ ?_
            · unfold fb_176_111
              try simp only [E_R h147, E_i h147, E_1 h147, E_7 h147, E_14 h147]
              unfold fb_176_112
              try simp only [E_R h147, E_i h147, E_1 h147, E_7 h147, E_14 h147]
              refine gG_ite ?_ ?_
              · unfold fb_176_130
                dsimp only
                try simp only [E_R h147, E_i h147, E_1 h147, E_7 h147, E_14 h147]
                have hs148 : Eq8 (gw s15 217 11 (g32 ((gI s15 217 11) + 1))) (gw s15p 217 11 (g32 ((gI s15 217 11) + 1))) := (E_w h147)
                try simp only [E_R hs148, E_i hs148, E_1 hs148, E_7 hs148, E_14 hs148]
                exact gG_ret ⟨rfl, rfl, rfl, rfl, rfl, hs148⟩
              · unfold fb_176_130
                dsimp only
                try simp only [E_R h147, E_i h147, E_1 h147, E_7 h147, E_14 h147]
                have hs149 : Eq8 (gw s15 217 11 (g32 ((gI s15 217 11) + 1))) (gw s15p 217 11 (g32 ((gI s15 217 11) + 1))) := (E_w h147)
                try simp only [E_R hs149, E_i hs149, E_1 hs149, E_7 hs149, E_14 hs149]
                exact gG_ret ⟨rfl, rfl, rfl, rfl, rfl, hs149⟩
            · refine gG_ite ?_ ?_
              · refine gG_v1 (n_153 h147) (fun v19 s18 s18p h150 => ?_)
                try simp only [E_R h150, E_i h150, E_1 h150, E_7 h150, E_14 h150]
                refine gG_ite ?_ ?_
                · unfold fb_176_112
                  try simp only [E_R h150, E_i h150, E_1 h150, E_7 h150, E_14 h150]
                  refine gG_ite ?_ ?_
                  · unfold fb_176_130
                    dsimp only
                    try simp only [E_R h150, E_i h150, E_1 h150, E_7 h150, E_14 h150]
                    have hs151 : Eq8 (gw s18 217 11 (g32 ((gI s18 217 11) + 1))) (gw s18p 217 11 (g32 ((gI s18 217 11) + 1))) := (E_w h150)
                    try simp only [E_R hs151, E_i hs151, E_1 hs151, E_7 hs151, E_14 hs151]
                    exact gG_ret ⟨rfl, rfl, rfl, rfl, rfl, hs151⟩
                  · unfold fb_176_130
                    dsimp only
                    try simp only [E_R h150, E_i h150, E_1 h150, E_7 h150, E_14 h150]
                    have hs152 : Eq8 (gw s18 217 11 (g32 ((gI s18 217 11) + 1))) (gw s18p 217 11 (g32 ((gI s18 217 11) + 1))) := (E_w h150)
                    try simp only [E_R hs152, E_i hs152, E_1 hs152, E_7 hs152, E_14 hs152]
                    exact gG_ret ⟨rfl, rfl, rfl, rfl, rfl, hs152⟩
                · unfold fb_176_111
                  try simp only [E_R h150, E_i h150, E_1 h150, E_7 h150, E_14 h150]
                  unfold fb_176_112
                  try simp only [E_R h150, E_i h150, E_1 h150, E_7 h150, E_14 h150]
                  refine gG_ite ?_ ?_
                  · unfold fb_176_130
                    dsimp only
                    try simp only [E_R h150, E_i h150, E_1 h150, E_7 h150, E_14 h150]
                    have hs153 : Eq8 (gw s18 217 11 (g32 ((gI s18 217 11) + 1))) (gw s18p 217 11 (g32 ((gI s18 217 11) + 1))) := (E_w h150)
                    try simp only [E_R hs153, E_i hs153, E_1 hs153, E_7 hs153, E_14 hs153]
                    exact gG_ret ⟨rfl, rfl, rfl, rfl, rfl, hs153⟩
                  · unfold fb_176_130
                    dsimp only
                    try simp only [E_R h150, E_i h150, E_1 h150, E_7 h150, E_14 h150]
                    have hs154 : Eq8 (gw s18 217 11 (g32 ((gI s18 217 11) + 1))) (gw s18p 217 11 (g32 ((gI s18 217 11) + 1))) := (E_w h150)
                    try simp only [E_R hs154, E_i hs154, E_1 hs154, E_7 hs154, E_14 hs154]
                    exact gG_ret ⟨rfl, rfl, rfl, rfl, rfl, hs154⟩
              · unfold fb_176_111
                try simp only [E_R h147, E_i h147, E_1 h147, E_7 h147, E_14 h147]
                unfold fb_176_112
                try simp only [E_R h147, E_i h147, E_1 h147, E_7 h147, E_14 h147]
                refine gG_ite ?_ ?_
                · unfold fb_176_130
                  dsimp only
                  try simp only [E_R h147, E_i h147, E_1 h147, E_7 h147, E_14 h147]
                  have hs155 : Eq8 (gw s15 217 11 (g32 ((gI s15 217 11) + 1))) (gw s15p 217 11 (g32 ((gI s15 217 11) + 1))) := (E_w h147)
                  try simp only [E_R hs155, E_i hs155, E_1 hs155, E_7 hs155, E_14 hs155]
                  exact gG_ret ⟨rfl, rfl, rfl, rfl, rfl, hs155⟩
                · unfold fb_176_130
                  dsimp only
                  try simp only [E_R h147, E_i h147, E_1 h147, E_7 h147, E_14 h147]
                  have hs156 : Eq8 (gw s15 217 11 (g32 ((gI s15 217 11) + 1))) (gw s15p 217 11 (g32 ((gI s15 217 11) + 1))) := (E_w h147)
                  try simp only [E_R hs156, E_i hs156, E_1 hs156, E_7 hs156, E_14 hs156]
                  exact gG_ret ⟨rfl, rfl, rfl, rfl, rfl, hs156⟩
        · refine gG_map ?_
          unfold fb_176_145
          try simp only [E_R h141, E_i h141, E_1 h141, E_7 h141, E_14 h141]
          refine gG_ite ?_ ?_
          · unfold fb_176_154
            try simp only [E_R h141, E_i h141, E_1 h141, E_7 h141, E_14 h141]
            refine gG_v0 (n_172 h141) (fun s13 s13p h157 => ?_)
            try simp only [E_R h157, E_i h157, E_1 h157, E_7 h157, E_14 h157]
            exact gG_ret ⟨rfl, rfl, rfl, h157⟩
          · refine gG_ite ?_ ?_
            · unfold fb_176_154
              try simp only [E_R h141, E_i h141, E_1 h141, E_7 h141, E_14 h141]
              refine gG_v0 (n_172 h141) (fun s13 s13p h158 => ?_)
              try simp only [E_R h158, E_i h158, E_1 h158, E_7 h158, E_14 h158]
              exact gG_ret ⟨rfl, rfl, rfl, h158⟩
            · exact gG_ret ⟨rfl, rfl, rfl, h141⟩
      · exact gG_ret ⟨rfl, rfl, rfl, h101⟩
  · unfold fb_176_24
    try simp only [E_R h, E_i h, E_1 h, E_7 h, E_14 h]
    refine gG_ite ?_ ?_
    · refine gG_v1 (n_173 h) (fun v7 s6 s6p h159 => ?_)
      try simp only [E_R h159, E_i h159, E_1 h159, E_7 h159, E_14 h159]
      refine gG_loop (fun y y' => y.1 = 217 ∧ y.1 = y'.1 ∧ y.2.1 = y'.2.1 ∧ y.2.2.1 = y'.2.2.1 ∧ y.2.2.2.1 = y'.2.2.2.1 ∧ Eq8 y.2.2.2.2 y'.2.2.2.2) (fun y y' hy => ?_) ⟨rfl, rfl, rfl, rfl, rfl, h159⟩
      obtain ⟨x0, x2, x3, x4, u164⟩ := y
      obtain ⟨z160, z161, z162, z163, u164p⟩ := y'
      obtain ⟨e170, e165, e166, e167, e168, h169⟩ := hy
      dsimp only at e170 e165 e166 e167 e168 h169
      subst e165 e166 e167 e168 e170
      show gG _ (sb_176_44 217 x2 x3 x4 u164) (sb_176_44 217 x2 x3 x4 u164p)
      unfold sb_176_44
      try simp only [E_R h169, E_i h169, E_1 h169, E_7 h169, E_14 h169]
      refine gG_ite ?_ ?_
      · refine gG_v1 (n_168 h169) (fun v9 s8 s8p h171 => ?_)
        try simp only [E_R h171, E_i h171, E_1 h171, E_7 h171, E_14 h171]
        refine gG_v1 (n_150 h171) (fun v11 s10 s10p h172 => ?_)
        try simp only [E_R h172, E_i h172, E_1 h172, E_7 h172, E_14 h172]
        refine gG_ite ?_ ?_
        · refine gG_map ?_
          unfold fb_176_145
          try simp only [E_R h172, E_i h172, E_1 h172, E_7 h172, E_14 h172]
          refine gG_ite ?_ ?_
          · unfold fb_176_154
            try simp only [E_R h172, E_i h172, E_1 h172, E_7 h172, E_14 h172]
            refine gG_v0 (n_172 h172) (fun s13 s13p h173 => ?_)
            try simp only [E_R h173, E_i h173, E_1 h173, E_7 h173, E_14 h173]
            exact gG_ret ⟨rfl, rfl, rfl, h173⟩
          · refine gG_ite ?_ ?_
            · unfold fb_176_154
              try simp only [E_R h172, E_i h172, E_1 h172, E_7 h172, E_14 h172]
              refine gG_v0 (n_172 h172) (fun s13 s13p h174 => ?_)
              try simp only [E_R h174, E_i h174, E_1 h174, E_7 h174, E_14 h174]
              exact gG_ret ⟨rfl, rfl, rfl, h174⟩
            · exact gG_ret ⟨rfl, rfl, rfl, h172⟩
        · refine gG_v1 (n_168 h172) (fun v16 s15 s15p h175 => ?_)
          try simp only [E_R h175, E_i h175, E_1 h175, E_7 h175, E_14 h175]
          refine gG_ite ?_ ?_
          · unfold fb_176_111
            try simp only [E_R h175, E_i h175, E_1 h175, E_7 h175, E_14 h175]
            unfold fb_176_112
            try simp only [E_R h175, E_i h175, E_1 h175, E_7 h175, E_14 h175]
            refine gG_ite ?_ ?_
            · unfold fb_176_130
              dsimp only
              try simp only [E_R h175, E_i h175, E_1 h175, E_7 h175, E_14 h175]
              have hs176 : Eq8 (gw s15 217 11 (g32 ((gI s15 217 11) + 1))) (gw s15p 217 11 (g32 ((gI s15 217 11) + 1))) := (E_w h175)
              try simp only [E_R hs176, E_i hs176, E_1 hs176, E_7 hs176, E_14 hs176]
              exact gG_ret ⟨rfl, rfl, rfl, rfl, rfl, hs176⟩
            · unfold fb_176_130
              dsimp only
              try simp only [E_R h175, E_i h175, E_1 h175, E_7 h175, E_14 h175]
              have hs177 : Eq8 (gw s15 217 11 (g32 ((gI s15 217 11) + 1))) (gw s15p 217 11 (g32 ((gI s15 217 11) + 1))) := (E_w h175)
              try simp only [E_R hs177, E_i hs177, E_1 hs177, E_7 hs177, E_14 hs177]
              exact gG_ret ⟨rfl, rfl, rfl, rfl, rfl, hs177⟩
          · refine gG_ite ?_ ?_
            · refine gG_v1 (n_153 h175) (fun v19 s18 s18p h178 => ?_)
              try simp only [E_R h178, E_i h178, E_1 h178, E_7 h178, E_14 h178]
              refine gG_ite ?_ ?_
              · unfold fb_176_112
                try simp only [E_R h178, E_i h178, E_1 h178, E_7 h178, E_14 h178]
                refine gG_ite ?_ ?_
                · unfold fb_176_130
                  dsimp only
                  try simp only [E_R h178, E_i h178, E_1 h178, E_7 h178, E_14 h178]
                  have hs179 : Eq8 (gw s18 217 11 (g32 ((gI s18 217 11) + 1))) (gw s18p 217 11 (g32 ((gI s18 217 11) + 1))) := (E_w h178)
                  try simp only [E_R hs179, E_i hs179, E_1 hs179, E_7 hs179, E_14 hs179]
                  exact gG_ret ⟨rfl, rfl, rfl, rfl, rfl, hs179⟩
                · unfold fb_176_130
                  dsimp only
                  try simp only [E_R h178, E_i h178, E_1 h178, E_7 h178, E_14 h178]
                  have hs180 : Eq8 (gw s18 217 11 (g32 ((gI s18 217 11) + 1))) (gw s18p 217 11 (g32 ((gI s18 217 11) + 1))) := (E_w h178)
                  try simp only [E_R hs180, E_i hs180, E_1 hs180, E_7 hs180, E_14 hs180]
                  exact gG_ret ⟨rfl, rfl, rfl, rfl, rfl, hs180⟩
              · unfold fb_176_111
                try simp only [E_R h178, E_i h178, E_1 h178, E_7 h178, E_14 h178]
                unfold fb_176_112
                try simp only [E_R h178, E_i h178, E_1 h178, E_7 h178, E_14 h178]
                refine gG_ite ?_ ?_
                · unfold fb_176_130
                  dsimp only
                  try simp only [E_R h178, E_i h178, E_1 h178, E_7 h178, E_14 h178]
                  have hs181 : Eq8 (gw s18 217 11 (g32 ((gI s18 217 11) + 1))) (gw s18p 217 11 (g32 ((gI s18 217 11) + 1))) := (E_w h178)
                  try simp only [E_R hs181, E_i hs181, E_1 hs181, E_7 hs181, E_14 hs181]
                  exact gG_ret ⟨rfl, rfl, rfl, rfl, rfl, hs181⟩
                · unfold fb_176_130
                  dsimp only
                  try simp only [E_R h178, E_i h178, E_1 h178, E_7 h178, E_14 h178]
                  have hs182 : Eq8 (gw s18 217 11 (g32 ((gI s18 217 11) + 1))) (gw s18p 217 11 (g32 ((gI s18 217 11) + 1))) := (E_w h178)
                  try simp only [E_R hs182, E_i hs182, E_1 hs182, E_7 hs182, E_14 hs182]
                  exact gG_ret ⟨rfl, rfl, rfl, rfl, rfl, hs182⟩
            · unfold fb_176_111
              try simp only [E_R h175, E_i h175, E_1 h175, E_7 h175, E_14 h175]
              unfold fb_176_112
              try simp only [E_R h175, E_i h175, E_1 h175, E_7 h175, E_14 h175]
              refine gG_ite ?_ ?_
              · unfold fb_176_130
                dsimp only
                try simp only [E_R h175, E_i h175, E_1 h175, E_7 h175, E_14 h175]
                have hs183 : Eq8 (gw s15 217 11 (g32 ((gI s15 217 11) + 1))) (gw s15p 217 11 (g32 ((gI s15 217 11) + 1))) := (E_w h175)
                try simp only [E_R hs183, E_i hs183, E_1 hs183, E_7 hs183, E_14 hs183]
                exact gG_ret ⟨rfl, rfl, rfl, rfl, rfl, hs183⟩
              · unfold fb_176_130
                dsimp only
                try simp only [E_R h175, E_i h175, E_1 h175, E_7 h175, E_14 h175]
                have hs184 : Eq8 (gw s15 217 11 (g32 ((gI s15 217 11) + 1))) (gw s15p 217 11 (g32 ((gI s15 217 11) + 1))) := (E_w h175)
                try simp only [E_R hs184, E_i hs184, E_1 hs184, E_7 hs184, E_14 hs184]
                exact gG_ret ⟨rfl, rfl, rfl, rfl, rfl, hs184⟩
      · refine gG_map ?_
        unfold fb_176_145
        try simp only [E_R h169, E_i h169, E_1 h169, E_7 h169, E_14 h169]
        refine gG_ite ?_ ?_
        · unfold fb_176_154
          try simp only [E_R h169, E_i h169, E_1 h169, E_7 h169, E_14 h169]
          refine gG_v0 (n_172 h169) (fun s13 s13p h185 => ?_)
          try simp only [E_R h185, E_i h185, E_1 h185, E_7 h185, E_14 h185]
          exact gG_ret ⟨rfl, rfl, rfl, h185⟩
        · refine gG_ite ?_ ?_
          · unfold fb_176_154
            try simp only [E_R h169, E_i h169, E_1 h169, E_7 h169, E_14 h169]
            refine gG_v0 (n_172 h169) (fun s13 s13p h186 => ?_)
            try simp only [E_R h186, E_i h186, E_1 h186, E_7 h186, E_14 h186]
            exact gG_ret ⟨rfl, rfl, rfl, h186⟩
          · exact gG_ret ⟨rfl, rfl, rfl, h169⟩
    · exact gG_ret ⟨rfl, rfl, rfl, h⟩

theorem n_177  {a1 : Int} {s s' : gS}  (h : Eq8 s s') : gG PE (f_177 217 a1 s) (f_177 217 a1 s') := by
  unfold f_177
  try simp only [E_R h, E_i h, E_1 h, E_7 h, E_14 h]
  refine gG_ite ?_ ?_
  · refine gG_v0 (n_172 h) (fun s1 s1p h187 => ?_)
    try simp only [E_R h187, E_i h187, E_1 h187, E_7 h187, E_14 h187]
    unfold fb_177_16
    dsimp only
    try simp only [E_R h187, E_i h187, E_1 h187, E_7 h187, E_14 h187]
    refine gG_v1 (n_175 h187) (fun v4 s3 s3p h188 => ?_)
    try simp only [E_R h188, E_i h188, E_1 h188, E_7 h188, E_14 h188]
    refine gG_v1 (n_175 h188) (fun v6 s5 s5p h189 => ?_)
    try simp only [E_R h189, E_i h189, E_1 h189, E_7 h189, E_14 h189]
    refine gG_v1 (n_175 h189) (fun v8 s7 s7p h190 => ?_)
    try simp only [E_R h190, E_i h190, E_1 h190, E_7 h190, E_14 h190]
    have hs191 : Eq8 (gw s7 (gR s7 217 1) ((g32 ((g32 (16 + (g32 (3 * (gI s7 (gR s7 217 1) 3))))) + 0)) : Int).toNat v4) (gw s7p (gR s7 217 1) ((g32 ((g32 (16 + (g32 (3 * (gI s7 (gR s7 217 1) 3))))) + 0)) : Int).toNat v4) := (E_w h190)
    try simp only [E_R hs191, E_i hs191, E_1 hs191, E_7 hs191, E_14 hs191]
    have hs192 : Eq8 (gw (gw s7 (gR s7 217 1) ((g32 ((g32 (16 + (g32 (3 * (gI s7 (gR s7 217 1) 3))))) + 0)) : Int).toNat v4) (gR (gw s7 (gR s7 217 1) ((g32 ((g32 (16 + (g32 (3 * (gI s7 (gR s7 217 1) 3))))) + 0)) : Int).toNat v4) 217 1) ((g32 ((g32 (16 + (g32 (3 * (gI s7 (gR s7 217 1) 3))))) + 1)) : Int).toNat v6) (gw (gw s7p (gR s7 217 1) ((g32 ((g32 (16 + (g32 (3 * (gI s7 (gR s7 217 1) 3))))) + 0)) : Int).toNat v4) (gR (gw s7 (gR s7 217 1) ((g32 ((g32 (16 + (g32 (3 * (gI s7 (gR s7 217 1) 3))))) + 0)) : Int).toNat v4) 217 1) ((g32 ((g32 (16 + (g32 (3 * (gI s7 (gR s7 217 1) 3))))) + 1)) : Int).toNat v6) := (E_w hs191)
    try simp only [E_R hs192, E_i hs192, E_1 hs192, E_7 hs192, E_14 hs192]
    have hs193 : Eq8 (gw (gw (gw s7 (gR s7 217 1) ((g32 ((g32 (16 + (g32 (3 * (gI s7 (gR s7 217 1) 3))))) + 0)) : Int).toNat v4) (gR (gw s7 (gR s7 217 1) ((g32 ((g32 (16 + (g32 (3 * (gI s7 (gR s7 217 1) 3))))) + 0)) : Int).toNat v4) 217 1) ((g32 ((g32 (16 + (g32 (3 * (gI s7 (gR s7 217 1) 3))))) + 1)) : Int).toNat v6) (gR (gw (gw s7 (gR s7 217 1) ((g32 ((g32 (16 + (g32 (3 * (gI s7 (gR s7 217 1) 3))))) + 0)) : Int).toNat v4) (gR (gw s7 (gR s7 217 1) ((g32 ((g32 (16 + (g32 (3 * (gI s7 (gR s7 217 1) 3))))) + 0)) : Int).toNat v4) 217 1) ((g32 ((g32 (16 + (g32 (3 * (gI s7 (gR s7 217 1) 3))))) + 1)) : Int).toNat v6) 217 1) ((g32 ((g32 (16 + (g32 (3 * (gI s7 (gR s7 217 1) 3))))) + 2)) : Int).toNat v8) (gw (gw (gw s7p (gR s7 217 1) ((g32 ((g32 (16 + (g32 (3 * (gI s7 (gR s7 217 1) 3))))) + 0)) : Int).toNat v4) (gR (gw s7 (gR s7 217 1) ((g32 ((g32 (16 + (g32 (3 * (gI s7 (gR s7 217 1) 3))))) + 0)) : Int).toNat v4) 217 1) ((g32 ((g32 (16 + (g32 (3 * (gI s7 (gR s7 217 1) 3))))) + 1)) : Int).toNat v6) (gR (gw (gw s7 (gR s7 217 1) ((g32 ((g32 (16 + (g32 (3 * (gI s7 (gR s7 217 1) 3))))) + 0)) : Int).toNat v4) (gR (gw s7 (gR s7 217 1) ((g32 ((g32 (16 + (g32 (3 * (gI s7 (gR s7 217 1) 3))))) + 0)) : Int).toNat v4) 217 1) ((g32 ((g32 (16 + (g32 (3 * (gI s7 (gR s7 217 1) 3))))) + 1)) : Int).toNat v6) 217 1) ((g32 ((g32 (16 + (g32 (3 * (gI s7 (gR s7 217 1) 3))))) + 2)) : Int).toNat v8) := (E_w hs192)
    try simp only [E_R hs193, E_i hs193, E_1 hs193, E_7 hs193, E_14 hs193]
    have hs194 : Eq8 (gw (gw (gw (gw s7 (gR s7 217 1) ((g32 ((g32 (16 + (g32 (3 * (gI s7 (gR s7 217 1) 3))))) + 0)) : Int).toNat v4) (gR (gw s7 (gR s7 217 1) ((g32 ((g32 (16 + (g32 (3 * (gI s7 (gR s7 217 1) 3))))) + 0)) : Int).toNat v4) 217 1) ((g32 ((g32 (16 + (g32 (3 * (gI s7 (gR s7 217 1) 3))))) + 1)) : Int).toNat v6) (gR (gw (gw s7 (gR s7 217 1) ((g32 ((g32 (16 + (g32 (3 * (gI s7 (gR s7 217 1) 3))))) + 0)) : Int).toNat v4) (gR (gw s7 (gR s7 217 1) ((g32 ((g32 (16 + (g32 (3 * (gI s7 (gR s7 217 1) 3))))) + 0)) : Int).toNat v4) 217 1) ((g32 ((g32 (16 + (g32 (3 * (gI s7 (gR s7 217 1) 3))))) + 1)) : Int).toNat v6) 217 1) ((g32 ((g32 (16 + (g32 (3 * (gI s7 (gR s7 217 1) 3))))) + 2)) : Int).toNat v8) (gR (gw (gw (gw s7 (gR s7 217 1) ((g32 ((g32 (16 + (g32 (3 * (gI s7 (gR s7 217 1) 3))))) + 0)) : Int).toNat v4) (gR (gw s7 (gR s7 217 1) ((g32 ((g32 (16 + (g32 (3 * (gI s7 (gR s7 217 1) 3))))) + 0)) : Int).toNat v4) 217 1) ((g32 ((g32 (16 + (g32 (3 * (gI s7 (gR s7 217 1) 3))))) + 1)) : Int).toNat v6) (gR (gw (gw s7 (gR s7 217 1) ((g32 ((g32 (16 + (g32 (3 * (gI s7 (gR s7 217 1) 3))))) + 0)) : Int).toNat v4) (gR (gw s7 (gR s7 217 1) ((g32 ((g32 (16 + (g32 (3 * (gI s7 (gR s7 217 1) 3))))) + 0)) : Int).toNat v4) 217 1) ((g32 ((g32 (16 + (g32 (3 * (gI s7 (gR s7 217 1) 3))))) + 1)) : Int).toNat v6) 217 1) ((g32 ((g32 (16 + (g32 (3 * (gI s7 (gR s7 217 1) 3))))) + 2)) : Int).toNat v8) 217 1) 3 (g32 ((gI (gw (gw (gw s7 (gR s7 217 1) ((g32 ((g32 (16 + (g32 (3 * (gI s7 (gR s7 217 1) 3))))) + 0)) : Int).toNat v4) (gR (gw s7 (gR s7 217 1) ((g32 ((g32 (16 + (g32 (3 * (gI s7 (gR s7 217 1) 3))))) + 0)) : Int).toNat v4) 217 1) ((g32 ((g32 (16 + (g32 (3 * (gI s7 (gR s7 217 1) 3))))) + 1)) : Int).toNat v6) (gR (gw (gw s7 (gR s7 217 1) ((g32 ((g32 (16 + (g32 (3 * (gI s7 (gR s7 217 1) 3))))) + 0)) : Int).toNat v4) (gR (gw s7 (gR s7 217 1) ((g32 ((g32 (16 + (g32 (3 * (gI s7 (gR s7 217 1) 3))))) + 0)) : Int).toNat v4) 217 1) ((g32 ((g32 (16 + (g32 (3 * (gI s7 (gR s7 217 1) 3))))) + 1)) : Int).toNat v6) 217 1) ((g32 ((g32 (16 + (g32 (3 * (gI s7 (gR s7 217 1) 3))))) + 2)) : Int).toNat v8) (gR (gw (gw (gw s7 (gR s7 217 1) ((g32 ((g32 (16 + (g32 (3 * (gI s7 (gR s7 217 1) 3))))) + 0)) : Int).toNat v4) (gR (gw s7 (gR s7 217 1) ((g32 ((g32 (16 + (g32 (3 * (gI s7 (gR s7 217 1) 3))))) + 0)) : Int).toNat v4) 217 1) ((g32 ((g32 (16 + (g32 (3 * (gI s7 (gR s7 217 1) 3))))) + 1)) : Int).toNat v6) (gR (gw (gw s7 (gR s7 217 1) ((g32 ((g32 (16 + (g32 (3 * (gI s7 (gR s7 217 1) 3))))) + 0)) : Int).toNat v4) (gR (gw s7 (gR s7 217 1) ((g32 ((g32 (16 + (g32 (3 * (gI s7 (gR s7 217 1) 3))))) + 0)) : Int).toNat v4) 217 1) ((g32 ((g32 (16 + (g32 (3 * (gI s7 (gR s7 217 1) 3))))) + 1)) : Int).toNat v6) 217 1) ((g32 ((g32 (16 + (g32 (3 * (gI s7 (gR s7 217 1) 3))))) + 2)) : Int).toNat v8) 217 1) 3) + 1))) (gw (gw (gw (gw s7p (gR s7 217 1) ((g32 ((g32 (16 + (g32 (3 * (gI s7 (gR s7 217 1) 3))))) + 0)) : Int).toNat v4) (gR (gw s7 (gR s7 217 1) ((g32 ((g32 (16 + (g32 (3 * (gI s7 (gR s7 217 1) 3))))) + 0)) : Int).toNat v4) 217 1) ((g32 ((g32 (16 + (g32 (3 * (gI s7 (gR s7 217 1) 3))))) + 1)) : Int).toNat v6) (gR (gw (gw s7 (gR s7 217 1) ((g32 ((g32 (16 + (g32 (3 * (gI s7 (gR s7 217 1) 3))))) + 0)) : Int).toNat v4) (gR (gw s7 (gR s7 217 1) ((g32 ((g32 (16 + (g32 (3 * (gI s7 (gR s7 217 1) 3))))) + 0)) : Int).toNat v4) 217 1) ((g32 ((g32 (16 + (g32 (3 * (gI s7 (gR s7 217 1) 3))))) + 1)) : Int).toNat v6) 217 1) ((g32 ((g32 (16 + (g32 (3 * (gI s7 (gR s7 217 1) 3))))) + 2)) : Int).toNat v8) (gR (gw (gw (gw s7 (gR s7 217 1) ((g32 ((g32 (16 + (g32 (3 * (gI s7 (gR s7 217 1) 3))))) + 0)) : Int).toNat v4) (gR (gw s7 (gR s7 217 1) ((g32 ((g32 (16 + (g32 (3 * (gI s7 (gR s7 217 1) 3))))) + 0)) : Int).toNat v4) 217 1) ((g32 ((g32 (16 + (g32 (3 * (gI s7 (gR s7 217 1) 3))))) + 1)) : Int).toNat v6) (gR (gw (gw s7 (gR s7 217 1) ((g32 ((g32 (16 + (g32 (3 * (gI s7 (gR s7 217 1) 3))))) + 0)) : Int).toNat v4) (gR (gw s7 (gR s7 217 1) ((g32 ((g32 (16 + (g32 (3 * (gI s7 (gR s7 217 1) 3))))) + 0)) : Int).toNat v4) 217 1) ((g32 ((g32 (16 + (g32 (3 * (gI s7 (gR s7 217 1) 3))))) + 1)) : Int).toNat v6) 217 1) ((g32 ((g32 (16 + (g32 (3 * (gI s7 (gR s7 217 1) 3))))) + 2)) : Int).toNat v8) 217 1) 3 (g32 ((gI (gw (gw (gw s7 (gR s7 217 1) ((g32 ((g32 (16 + (g32 (3 * (gI s7 (gR s7 217 1) 3))))) + 0)) : Int).toNat v4) (gR (gw s7 (gR s7 217 1) ((g32 ((g32 (16 + (g32 (3 * (gI s7 (gR s7 217 1) 3))))) + 0)) : Int).toNat v4) 217 1) ((g32 ((g32 (16 + (g32 (3 * (gI s7 (gR s7 217 1) 3))))) + 1)) : Int).toNat v6) (gR (gw (gw s7 (gR s7 217 1) ((g32 ((g32 (16 + (g32 (3 * (gI s7 (gR s7 217 1) 3))))) + 0)) : Int).toNat v4) (gR (gw s7 (gR s7 217 1) ((g32 ((g32 (16 + (g32 (3 * (gI s7 (gR s7 217 1) 3))))) + 0)) : Int).toNat v4) 217 1) ((g32 ((g32 (16 + (g32 (3 * (gI s7 (gR s7 217 1) 3))))) + 1)) : Int).toNat v6) 217 1) ((g32 ((g32 (16 + (g32 (3 * (gI s7 (gR s7 217 1) 3))))) + 2)) : Int).toNat v8) (gR (gw (gw (gw s7 (gR s7 217 1) ((g32 ((g32 (16 + (g32 (3 * (gI s7 (gR s7 217 1) 3))))) + 0)) : Int).toNat v4) (gR (gw s7 (gR s7 217 1) ((g32 ((g32 (16 + (g32 (3 * (gI s7 (gR s7 217 1) 3))))) + 0)) : Int).toNat v4) 217 1) ((g32 ((g32 (16 + (g32 (3 * (gI s7 (gR s7 217 1) 3))))) + 1)) : Int).toNat v6) (gR (gw (gw s7 (gR s7 217 1) ((g32 ((g32 (16 + (g32 (3 * (gI s7 (gR s7 217 1) 3))))) + 0)) : Int).toNat v4) (gR (gw s7 (gR s7 217 1) ((g32 ((g32 (16 + (g32 (3 * (gI s7 (gR s7 217 1) 3))))) + 0)) : Int).toNat v4) 217 1) ((g32 ((g32 (16 + (g32 (3 * (gI s7 (gR s7 217 1) 3))))) + 1)) : Int).toNat v6) 217 1) ((g32 ((g32 (16 + (g32 (3 * (gI s7 (gR s7 217 1) 3))))) + 2)) : Int).toNat v8) 217 1) 3) + 1))) := (E_w hs193)
    try simp only [E_R hs194, E_i hs194, E_1 hs194, E_7 hs194, E_14 hs194]
    refine gG_ite ?_ ?_
    · refine gG_chk ?_
      refine gG_chk ?_
      refine gG_chk ?_
      exact gG_ret ⟨rfl, rfl, rfl, hs194⟩
    · exact gG_ret ⟨rfl, rfl, rfl, h190⟩
  · unfold fb_177_16
    dsimp only
    try simp only [E_R h, E_i h, E_1 h, E_7 h, E_14 h]
    refine gG_v1 (n_175 h) (fun v4 s3 s3p h195 => ?_)
    try simp only [E_R h195, E_i h195, E_1 h195, E_7 h195, E_14 h195]
    refine gG_v1 (n_175 h195) (fun v6 s5 s5p h196 => ?_)
    try simp only [E_R h196, E_i h196, E_1 h196, E_7 h196, E_14 h196]
    refine gG_v1 (n_175 h196) (fun v8 s7 s7p h197 => ?_)
    try simp only [E_R h197, E_i h197, E_1 h197, E_7 h197, E_14 h197]
    have hs198 : Eq8 (gw s7 (gR s7 217 1) ((g32 ((g32 (16 + (g32 (3 * (gI s7 (gR s7 217 1) 3))))) + 0)) : Int).toNat v4) (gw s7p (gR s7 217 1) ((g32 ((g32 (16 + (g32 (3 * (gI s7 (gR s7 217 1) 3))))) + 0)) : Int).toNat v4) := (E_w h197)
    try simp only [E_R hs198, E_i hs198, E_1 hs198, E_7 hs198, E_14 hs198]
    have hs199 : Eq8 (gw (gw s7 (gR s7 217 1) ((g32 ((g32 (16 + (g32 (3 * (gI s7 (gR s7 217 1) 3))))) + 0)) : Int).toNat v4) (gR (gw s7 (gR s7 217 1) ((g32 ((g32 (16 + (g32 (3 * (gI s7 (gR s7 217 1) 3))))) + 0)) : Int).toNat v4) 217 1) ((g32 ((g32 (16 + (g32 (3 * (gI s7 (gR s7 217 1) 3))))) + 1)) : Int).toNat v6) (gw (gw s7p (gR s7 217 1) ((g32 ((g32 (16 + (g32 (3 * (gI s7 (gR s7 217 1) 3))))) + 0)) : Int).toNat v4) (gR (gw s7 (gR s7 217 1) ((g32 ((g32 (16 + (g32 (3 * (gI s7 (gR s7 217 1) 3))))) + 0)) : Int).toNat v4) 217 1) ((g32 ((g32 (16 + (g32 (3 * (gI s7 (gR s7 217 1) 3))))) + 1)) : Int).toNat v6) := (E_w hs198)
    try simp only [E_R hs199, E_i hs199, E_1 hs199, E_7 hs199, E_14 hs199]
    have hs200 : Eq8 (gw (gw (gw s7 (gR s7 217 1) ((g32 ((g32 (16 + (g32 (3 * (gI s7 (gR s7 217 1) 3))))) + 0)) : Int).toNat v4) (gR (gw s7 (gR s7 217 1) ((g32 ((g32 (16 + (g32 (3 * (gI s7 (gR s7 217 1) 3))))) + 0)) : Int).toNat v4) 217 1) ((g32 ((g32 (16 + (g32 (3 * (gI s7 (gR s7 217 1) 3))))) + 1)) : Int).toNat v6) (gR (gw (gw s7 (gR s7 217 1) ((g32 ((g32 (16 + (g32 (3 * (gI s7 (gR s7 217 1) 3))))) + 0)) : Int).toNat v4) (gR (gw s7 (gR s7 217 1) ((g32 ((g32 (16 + (g32 (3 * (gI s7 (gR s7 217 1) 3))))) + 0)) : Int).toNat v4) 217 1) ((g32 ((g32 (16 + (g32 (3 * (gI s7 (gR s7 217 1) 3))))) + 1)) : Int).toNat v6) 217 1) ((g32 ((g32 (16 + (g32 (3 * (gI s7 (gR s7 217 1) 3))))) + 2)) : Int).toNat v8) (gw (gw (gw s7p (gR s7 217 1) ((g32 ((g32 (16 + (g32 (3 * (gI s7 (gR s7 217 1) 3))))) + 0)) : Int).toNat v4) (gR (gw s7 (gR s7 217 1) ((g32 ((g32 (16 + (g32 (3 * (gI s7 (gR s7 217 1) 3))))) + 0)) : Int).toNat v4) 217 1) ((g32 ((g32 (16 + (g32 (3 * (gI s7 (gR s7 217 1) 3))))) + 1)) : Int).toNat v6) (gR (gw (gw s7 (gR s7 217 1) ((g32 ((g32 (16 + (g32 (3 * (gI s7 (gR s7 217 1) 3))))) + 0)) : Int).toNat v4) (gR (gw s7 (gR s7 217 1) ((g32 ((g32 (16 + (g32 (3 * (gI s7 (gR s7 217 1) 3))))) + 0)) : Int).toNat v4) 217 1) ((g32 ((g32 (16 + (g32 (3 * (gI s7 (gR s7 217 1) 3))))) + 1)) : Int).toNat v6) 217 1) ((g32 ((g32 (16 + (g32 (3 * (gI s7 (gR s7 217 1) 3))))) + 2)) : Int).toNat v8) := (E_w hs199)
    try simp only [E_R hs200, E_i hs200, E_1 hs200, E_7 hs200, E_14 hs200]
    have hs201 : Eq8 (gw (gw (gw (gw s7 (gR s7 217 1) ((g32 ((g32 (16 + (g32 (3 * (gI s7 (gR s7 217 1) 3))))) + 0)) : Int).toNat v4) (gR (gw s7 (gR s7 217 1) ((g32 ((g32 (16 + (g32 (3 * (gI s7 (gR s7 217 1) 3))))) + 0)) : Int).toNat v4) 217 1) ((g32 ((g32 (16 + (g32 (3 * (gI s7 (gR s7 217 1) 3))))) + 1)) : Int).toNat v6) (gR (gw (gw s7 (gR s7 217 1) ((g32 ((g32 (16 + (g32 (3 * (gI s7 (gR s7 217 1) 3))))) + 0)) : Int).toNat v4) (gR (gw s7 (gR s7 217 1) ((g32 ((g32 (16 + (g32 (3 * (gI s7 (gR s7 217 1) 3))))) + 0)) : Int).toNat v4) 217 1) ((g32 ((g32 (16 + (g32 (3 * (gI s7 (gR s7 217 1) 3))))) + 1)) : Int).toNat v6) 217 1) ((g32 ((g32 (16 + (g32 (3 * (gI s7 (gR s7 217 1) 3))))) + 2)) : Int).toNat v8) (gR (gw (gw (gw s7 (gR s7 217 1) ((g32 ((g32 (16 + (g32 (3 * (gI s7 (gR s7 217 1) 3))))) + 0)) : Int).toNat v4) (gR (gw s7 (gR s7 217 1) ((g32 ((g32 (16 + (g32 (3 * (gI s7 (gR s7 217 1) 3))))) + 0)) : Int).toNat v4) 217 1) ((g32 ((g32 (16 + (g32 (3 * (gI s7 (gR s7 217 1) 3))))) + 1)) : Int).toNat v6) (gR (gw (gw s7 (gR s7 217 1) ((g32 ((g32 (16 + (g32 (3 * (gI s7 (gR s7 217 1) 3))))) + 0)) : Int).toNat v4) (gR (gw s7 (gR s7 217 1) ((g32 ((g32 (16 + (g32 (3 * (gI s7 (gR s7 217 1) 3))))) + 0)) : Int).toNat v4) 217 1) ((g32 ((g32 (16 + (g32 (3 * (gI s7 (gR s7 217 1) 3))))) + 1)) : Int).toNat v6) 217 1) ((g32 ((g32 (16 + (g32 (3 * (gI s7 (gR s7 217 1) 3))))) + 2)) : Int).toNat v8) 217 1) 3 (g32 ((gI (gw (gw (gw s7 (gR s7 217 1) ((g32 ((g32 (16 + (g32 (3 * (gI s7 (gR s7 217 1) 3))))) + 0)) : Int).toNat v4) (gR (gw s7 (gR s7 217 1) ((g32 ((g32 (16 + (g32 (3 * (gI s7 (gR s7 217 1) 3))))) + 0)) : Int).toNat v4) 217 1) ((g32 ((g32 (16 + (g32 (3 * (gI s7 (gR s7 217 1) 3))))) + 1)) : Int).toNat v6) (gR (gw (gw s7 (gR s7 217 1) ((g32 ((g32 (16 + (g32 (3 * (gI s7 (gR s7 217 1) 3))))) + 0)) : Int).toNat v4) (gR (gw s7 (gR s7 217 1) ((g32 ((g32 (16 + (g32 (3 * (gI s7 (gR s7 217 1) 3))))) + 0)) : Int).toNat v4) 217 1) ((g32 ((g32 (16 + (g32 (3 * (gI s7 (gR s7 217 1) 3))))) + 1)) : Int).toNat v6) 217 1) ((g32 ((g32 (16 + (g32 (3 * (gI s7 (gR s7 217 1) 3))))) + 2)) : Int).toNat v8) (gR (gw (gw (gw s7 (gR s7 217 1) ((g32 ((g32 (16 + (g32 (3 * (gI s7 (gR s7 217 1) 3))))) + 0)) : Int).toNat v4) (gR (gw s7 (gR s7 217 1) ((g32 ((g32 (16 + (g32 (3 * (gI s7 (gR s7 217 1) 3))))) + 0)) : Int).toNat v4) 217 1) ((g32 ((g32 (16 + (g32 (3 * (gI s7 (gR s7 217 1) 3))))) + 1)) : Int).toNat v6) (gR (gw (gw s7 (gR s7 217 1) ((g32 ((g32 (16 + (g32 (3 * (gI s7 (gR s7 217 1) 3))))) + 0)) : Int).toNat v4) (gR (gw s7 (gR s7 217 1) ((g32 ((g32 (16 + (g32 (3 * (gI s7 (gR s7 217 1) 3))))) + 0)) : Int).toNat v4) 217 1) ((g32 ((g32 (16 + (g32 (3 * (gI s7 (gR s7 217 1) 3))))) + 1)) : Int).toNat v6) 217 1) ((g32 ((g32 (16 + (g32 (3 * (gI s7 (gR s7 217 1) 3))))) + 2)) : Int).toNat v8) 217 1) 3) + 1))) (gw (gw (gw (gw s7p (gR s7 217 1) ((g32 ((g32 (16 + (g32 (3 * (gI s7 (gR s7 217 1) 3))))) + 0)) : Int).toNat v4) (gR (gw s7 (gR s7 217 1) ((g32 ((g32 (16 + (g32 (3 * (gI s7 (gR s7 217 1) 3))))) + 0)) : Int).toNat v4) 217 1) ((g32 ((g32 (16 + (g32 (3 * (gI s7 (gR s7 217 1) 3))))) + 1)) : Int).toNat v6) (gR (gw (gw s7 (gR s7 217 1) ((g32 ((g32 (16 + (g32 (3 * (gI s7 (gR s7 217 1) 3))))) + 0)) : Int).toNat v4) (gR (gw s7 (gR s7 217 1) ((g32 ((g32 (16 + (g32 (3 * (gI s7 (gR s7 217 1) 3))))) + 0)) : Int).toNat v4) 217 1) ((g32 ((g32 (16 + (g32 (3 * (gI s7 (gR s7 217 1) 3))))) + 1)) : Int).toNat v6) 217 1) ((g32 ((g32 (16 + (g32 (3 * (gI s7 (gR s7 217 1) 3))))) + 2)) : Int).toNat v8) (gR (gw (gw (gw s7 (gR s7 217 1) ((g32 ((g32 (16 + (g32 (3 * (gI s7 (gR s7 217 1) 3))))) + 0)) : Int).toNat v4) (gR (gw s7 (gR s7 217 1) ((g32 ((g32 (16 + (g32 (3 * (gI s7 (gR s7 217 1) 3))))) + 0)) : Int).toNat v4) 217 1) ((g32 ((g32 (16 + (g32 (3 * (gI s7 (gR s7 217 1) 3))))) + 1)) : Int).toNat v6) (gR (gw (gw s7 (gR s7 217 1) ((g32 ((g32 (16 + (g32 (3 * (gI s7 (gR s7 217 1) 3))))) + 0)) : Int).toNat v4) (gR (gw s7 (gR s7 217 1) ((g32 ((g32 (16 + (g32 (3 * (gI s7 (gR s7 217 1) 3))))) + 0)) : Int).toNat v4) 217 1) ((g32 ((g32 (16 + (g32 (3 * (gI s7 (gR s7 217 1) 3))))) + 1)) : Int).toNat v6) 217 1) ((g32 ((g32 (16 + (g32 (3 * (gI s7 (gR s7 217 1) 3))))) + 2)) : Int).toNat v8) 217 1) 3 (g32 ((gI (gw (gw (gw s7 (gR s7 217 1) ((g32 ((g32 (16 + (g32 (3 * (gI s7 (gR s7 217 1) 3))))) + 0)) : Int).toNat v4) (gR (gw s7 (gR s7 217 1) ((g32 ((g32 (16 + (g32 (3 * (gI s7 (gR s7 217 1) 3))))) + 0)) : Int).toNat v4) 217 1) ((g32 ((g32 (16 + (g32 (3 * (gI s7 (gR s7 217 1) 3))))) + 1)) : Int).toNat v6) (gR (gw (gw s7 (gR s7 217 1) ((g32 ((g32 (16 + (g32 (3 * (gI s7 (gR s7 217 1) 3))))) + 0)) : Int).toNat v4) (gR (gw s7 (gR s7 217 1) ((g32 ((g32 (16 + (g32 (3 * (gI s7 (gR s7 217 1) 3))))) + 0)) : Int).toNat v4) 217 1) ((g32 ((g32 (16 + (g32 (3 * (gI s7 (gR s7 217 1) 3))))) + 1)) : Int).toNat v6) 217 1) ((g32 ((g32 (16 + (g32 (3 * (gI s7 (gR s7 217 1) 3))))) + 2)) : Int).toNat v8) (gR (gw (gw (gw s7 (gR s7 217 1) ((g32 ((g32 (16 + (g32 (3 * (gI s7 (gR s7 217 1) 3))))) + 0)) : Int).toNat v4) (gR (gw s7 (gR s7 217 1) ((g32 ((g32 (16 + (g32 (3 * (gI s7 (gR s7 217 1) 3))))) + 0)) : Int).toNat v4) 217 1) ((g32 ((g32 (16 + (g32 (3 * (gI s7 (gR s7 217 1) 3))))) + 1)) : Int).toNat v6) (gR (gw (gw s7 (gR s7 217 1) ((g32 ((g32 (16 + (g32 (3 * (gI s7 (gR s7 217 1) 3))))) + 0)) : Int).toNat v4) (gR (gw s7 (gR s7 217 1) ((g32 ((g32 (16 + (g32 (3 * (gI s7 (gR s7 217 1) 3))))) + 0)) : Int).toNat v4) 217 1) ((g32 ((g32 (16 + (g32 (3 * (gI s7 (gR s7 217 1) 3))))) + 1)) : Int).toNat v6) 217 1) ((g32 ((g32 (16 + (g32 (3 * (gI s7 (gR s7 217 1) 3))))) + 2)) : Int).toNat v8) 217 1) 3) + 1))) := (E_w hs200)
    try simp only [E_R hs201, E_i hs201, E_1 hs201, E_7 hs201, E_14 hs201]
    refine gG_ite ?_ ?_
    · refine gG_chk ?_
      refine gG_chk ?_
      refine gG_chk ?_
      exact gG_ret ⟨rfl, rfl, rfl, hs201⟩
    · exact gG_ret ⟨rfl, rfl, rfl, h197⟩

theorem n_178  {a1 : Int} {s s' : gS}  (h : Eq8 s s') : gG PE (f_178 217 a1 s) (f_178 217 a1 s') := by
  unfold f_178
  try simp only [E_R h, E_i h, E_1 h, E_7 h, E_14 h]
  refine gG_ite ?_ ?_
  · refine gG_v0 (n_172 h) (fun s1 s1p h202 => ?_)
    try simp only [E_R h202, E_i h202, E_1 h202, E_7 h202, E_14 h202]
    unfold fb_178_16
    dsimp only
    try simp only [E_R h202, E_i h202, E_1 h202, E_7 h202, E_14 h202]
    refine gG_v1 (n_175 h202) (fun v4 s3 s3p h203 => ?_)
    try simp only [E_R h203, E_i h203, E_1 h203, E_7 h203, E_14 h203]
    refine gG_v1 (n_175 h203) (fun v6 s5 s5p h204 => ?_)
    try simp only [E_R h204, E_i h204, E_1 h204, E_7 h204, E_14 h204]
    refine gG_v1 (n_176 h204) (fun v8 s7 s7p h205 => ?_)
    try simp only [E_R h205, E_i h205, E_1 h205, E_7 h205, E_14 h205]
    refine gG_ite ?_ ?_
    · refine gG_v0 (n_157 h205) (fun s10 s10p h206 => ?_)
      try simp only [E_R h206, E_i h206, E_1 h206, E_7 h206, E_14 h206]
      refine gG_v0 (n_157 h206) (fun s12 s12p h207 => ?_)
      try simp only [E_R h207, E_i h207, E_1 h207, E_7 h207, E_14 h207]
      refine gG_v0 (n_157 h207) (fun s14 s14p h208 => ?_)
      try simp only [E_R h208, E_i h208, E_1 h208, E_7 h208, E_14 h208]
      refine gG_v0 (n_157 h208) (fun s16 s16p h209 => ?_)
      try simp only [E_R h209, E_i h209, E_1 h209, E_7 h209, E_14 h209]
      refine gG_v0 (n_157 h209) (fun s18 s18p h210 => ?_)
      try simp only [E_R h210, E_i h210, E_1 h210, E_7 h210, E_14 h210]
      refine gG_v0 (n_157 h210) (fun s20 s20p h211 => ?_)
      try simp only [E_R h211, E_i h211, E_1 h211, E_7 h211, E_14 h211]
      have hs212 : Eq8 (gw s20 (gR s20 217 1) 4 (g32 ((gI s20 (gR s20 217 1) 4) + 1))) (gw s20p (gR s20 217 1) 4 (g32 ((gI s20 (gR s20 217 1) 4) + 1))) := (E_w h211)
      try simp only [E_R hs212, E_i hs212, E_1 hs212, E_7 hs212, E_14 hs212]
      exact gG_ret ⟨rfl, rfl, rfl, hs212⟩
    · exact gG_ret ⟨rfl, rfl, rfl, h205⟩
  · unfold fb_178_16
    dsimp only
    try simp only [E_R h, E_i h, E_1 h, E_7 h, E_14 h]
    refine gG_v1 (n_175 h) (fun v4 s3 s3p h213 => ?_)
    try simp only [E_R h213, E_i h213, E_1 h213, E_7 h213, E_14 h213]
    refine gG_v1 (n_175 h213) (fun v6 s5 s5p h214 => ?_)
    try simp only [E_R h214, E_i h214, E_1 h214, E_7 h214, E_14 h214]
    refine gG_v1 (n_176 h214) (fun v8 s7 s7p h215 => ?_)
    try simp only [E_R h215, E_i h215, E_1 h215, E_7 h215, E_14 h215]
    refine gG_ite ?_ ?_
    · refine gG_v0 (n_157 h215) (fun s10 s10p h216 => ?_)
      try simp only [E_R h216, E_i h216, E_1 h216, E_7 h216, E_14 h216]
      refine gG_v0 (n_157 h216) (fun s12 s12p h217 => ?_)
      try simp only [E_R h217, E_i h217, E_1 h217, E_7 h217, E_14 h217]
      refine gG_v0 (n_157 h217) (fun s14 s14p h218 => ?_)
      try simp only [E_R h218, E_i h218, E_1 h218, E_7 h218, E_14 h218]
      refine gG_v0 (n_157 h218) (fun s16 s16p h219 => ?_)
      try simp only [E_R h219, E_i h219, E_1 h219, E_7 h219, E_14 h219]
      refine gG_v0 (n_157 h219) (fun s18 s18p h220 => ?_)
      try simp only [E_R h220, E_i h220, E_1 h220, E_7 h220, E_14 h220]
      refine gG_v0 (n_157 h220) (fun s20 s20p h221 => ?_)
      try simp only [E_R h221, E_i h221, E_1 h221, E_7 h221, E_14 h221]
      have hs222 : Eq8 (gw s20 (gR s20 217 1) 4 (g32 ((gI s20 (gR s20 217 1) 4) + 1))) (gw s20p (gR s20 217 1) 4 (g32 ((gI s20 (gR s20 217 1) 4) + 1))) := (E_w h221)
      try simp only [E_R hs222, E_i hs222, E_1 hs222, E_7 hs222, E_14 hs222]
      exact gG_ret ⟨rfl, rfl, rfl, hs222⟩
    · exact gG_ret ⟨rfl, rfl, rfl, h215⟩

theorem n_179  {a1 : Int} {s s' : gS}  (h : Eq8 s s') : gG PE (f_179 217 a1 s) (f_179 217 a1 s') := by
  unfold f_179
  try simp only [E_R h, E_i h, E_1 h, E_7 h, E_14 h]
  refine gG_ite ?_ ?_
  · refine gG_v0 (n_172 h) (fun s1 s1p h223 => ?_)
    try simp only [E_R h223, E_i h223, E_1 h223, E_7 h223, E_14 h223]
    unfold fb_179_16
    dsimp only
    try simp only [E_R h223, E_i h223, E_1 h223, E_7 h223, E_14 h223]
    refine gG_v1 (n_175 h223) (fun v4 s3 s3p h224 => ?_)
    try simp only [E_R h224, E_i h224, E_1 h224, E_7 h224, E_14 h224]
    refine gG_v1 (n_176 h224) (fun v6 s5 s5p h225 => ?_)
    try simp only [E_R h225, E_i h225, E_1 h225, E_7 h225, E_14 h225]
    have hs226 : Eq8 (gw s5 (gR s5 217 1) ((g32 (76 + (g32 (2 * (gI s5 (gR s5 217 1) 5))))) : Int).toNat v4) (gw s5p (gR s5 217 1) ((g32 (76 + (g32 (2 * (gI s5 (gR s5 217 1) 5))))) : Int).toNat v4) := (E_w h225)
    try simp only [E_R hs226, E_i hs226, E_1 hs226, E_7 hs226, E_14 hs226]
    have hs227 : Eq8 (gw (gw s5 (gR s5 217 1) ((g32 (76 + (g32 (2 * (gI s5 (gR s5 217 1) 5))))) : Int).toNat v4) (gR (gw s5 (gR s5 217 1) ((g32 (76 + (g32 (2 * (gI s5 (gR s5 217 1) 5))))) : Int).toNat v4) 217 1) ((g32 ((g32 (76 + (g32 (2 * (gI (gw s5 (gR s5 217 1) ((g32 (76 + (g32 (2 * (gI s5 (gR s5 217 1) 5))))) : Int).toNat v4) (gR (gw s5 (gR s5 217 1) ((g32 (76 + (g32 (2 * (gI s5 (gR s5 217 1) 5))))) : Int).toNat v4) 217 1) 5))))) + 1)) : Int).toNat v6) (gw (gw s5p (gR s5 217 1) ((g32 (76 + (g32 (2 * (gI s5 (gR s5 217 1) 5))))) : Int).toNat v4) (gR (gw s5 (gR s5 217 1) ((g32 (76 + (g32 (2 * (gI s5 (gR s5 217 1) 5))))) : Int).toNat v4) 217 1) ((g32 ((g32 (76 + (g32 (2 * (gI (gw s5 (gR s5 217 1) ((g32 (76 + (g32 (2 * (gI s5 (gR s5 217 1) 5))))) : Int).toNat v4) (gR (gw s5 (gR s5 217 1) ((g32 (76 + (g32 (2 * (gI s5 (gR s5 217 1) 5))))) : Int).toNat v4) 217 1) 5))))) + 1)) : Int).toNat v6) := (E_w hs226)
    try simp only [E_R hs227, E_i hs227, E_1 hs227, E_7 hs227, E_14 hs227]
    have hs228 : Eq8 (gw (gw (gw s5 (gR s5 217 1) ((g32 (76 + (g32 (2 * (gI s5 (gR s5 217 1) 5))))) : Int).toNat v4) (gR (gw s5 (gR s5 217 1) ((g32 (76 + (g32 (2 * (gI s5 (gR s5 217 1) 5))))) : Int).toNat v4) 217 1) ((g32 ((g32 (76 + (g32 (2 * (gI (gw s5 (gR s5 217 1) ((g32 (76 + (g32 (2 * (gI s5 (gR s5 217 1) 5))))) : Int).toNat v4) (gR (gw s5 (gR s5 217 1) ((g32 (76 + (g32 (2 * (gI s5 (gR s5 217 1) 5))))) : Int).toNat v4) 217 1) 5))))) + 1)) : Int).toNat v6) (gR (gw (gw s5 (gR s5 217 1) ((g32 (76 + (g32 (2 * (gI s5 (gR s5 217 1) 5))))) : Int).toNat v4) (gR (gw s5 (gR s5 217 1) ((g32 (76 + (g32 (2 * (gI s5 (gR s5 217 1) 5))))) : Int).toNat v4) 217 1) ((g32 ((g32 (76 + (g32 (2 * (gI (gw s5 (gR s5 217 1) ((g32 (76 + (g32 (2 * (gI s5 (gR s5 217 1) 5))))) : Int).toNat v4) (gR (gw s5 (gR s5 217 1) ((g32 (76 + (g32 (2 * (gI s5 (gR s5 217 1) 5))))) : Int).toNat v4) 217 1) 5))))) + 1)) : Int).toNat v6) 217 1) 5 (g32 ((gI (gw (gw s5 (gR s5 217 1) ((g32 (76 + (g32 (2 * (gI s5 (gR s5 217 1) 5))))) : Int).toNat v4) (gR (gw s5 (gR s5 217 1) ((g32 (76 + (g32 (2 * (gI s5 (gR s5 217 1) 5))))) : Int).toNat v4) 217 1) ((g32 ((g32 (76 + (g32 (2 * (gI (gw s5 (gR s5 217 1) ((g32 (76 + (g32 (2 * (gI s5 (gR s5 217 1) 5))))) : Int).toNat v4) (gR (gw s5 (gR s5 217 1) ((g32 (76 + (g32 (2 * (gI s5 (gR s5 217 1) 5))))) : Int).toNat v4) 217 1) 5))))) + 1)) : Int).toNat v6) (gR (gw (gw s5 (gR s5 217 1) ((g32 (76 + (g32 (2 * (gI s5 (gR s5 217 1) 5))))) : Int).toNat v4) (gR (gw s5 (gR s5 217 1) ((g32 (76 + (g32 (2 * (gI s5 (gR s5 217 1) 5))))) : Int).toNat v4) 217 1) ((g32 ((g32 (76 + (g32 (2 * (gI (gw s5 (gR s5 217 1) ((g32 (76 + (g32 (2 * (gI s5 (gR s5 217 1) 5))))) : Int).toNat v4) (gR (gw s5 (gR s5 217 1) ((g32 (76 + (g32 (2 * (gI s5 (gR s5 217 1) 5))))) : Int).toNat v4) 217 1) 5))))) + 1)) : Int).toNat v6) 217 1) 5) + 1))) (gw (gw (gw s5p (gR s5 217 1) ((g32 (76 + (g32 (2 * (gI s5 (gR s5 217 1) 5))))) : Int).toNat v4) (gR (gw s5 (gR s5 217 1) ((g32 (76 + (g32 (2 * (gI s5 (gR s5 217 1) 5))))) : Int).toNat v4) 217 1) ((g32 ((g32 (76 + (g32 (2 * (gI (gw s5 (gR s5 217 1) ((g32 (76 + (g32 (2 * (gI s5 (gR s5 217 1) 5))))) : Int).toNat v4) (gR (gw s5 (gR s5 217 1) ((g32 (76 + (g32 (2 * (gI s5 (gR s5 217 1) 5))))) : Int).toNat v4) 217 1) 5))))) + 1)) : Int).toNat v6) (gR (gw (gw s5 (gR s5 217 1) ((g32 (76 + (g32 (2 * (gI s5 (gR s5 217 1) 5))))) : Int).toNat v4) (gR (gw s5 (gR s5 217 1) ((g32 (76 + (g32 (2 * (gI s5 (gR s5 217 1) 5))))) : Int).toNat v4) 217 1) ((g32 ((g32 (76 + (g32 (2 * (gI (gw s5 (gR s5 217 1) ((g32 (76 + (g32 (2 * (gI s5 (gR s5 217 1) 5))))) : Int).toNat v4) (gR (gw s5 (gR s5 217 1) ((g32 (76 + (g32 (2 * (gI s5 (gR s5 217 1) 5))))) : Int).toNat v4) 217 1) 5))))) + 1)) : Int).toNat v6) 217 1) 5 (g32 ((gI (gw (gw s5 (gR s5 217 1) ((g32 (76 + (g32 (2 * (gI s5 (gR s5 217 1) 5))))) : Int).toNat v4) (gR (gw s5 (gR s5 217 1) ((g32 (76 + (g32 (2 * (gI s5 (gR s5 217 1) 5))))) : Int).toNat v4) 217 1) ((g32 ((g32 (76 + (g32 (2 * (gI (gw s5 (gR s5 217 1) ((g32 (76 + (g32 (2 * (gI s5 (gR s5 217 1) 5))))) : Int).toNat v4) (gR (gw s5 (gR s5 217 1) ((g32 (76 + (g32 (2 * (gI s5 (gR s5 217 1) 5))))) : Int).toNat v4) 217 1) 5))))) + 1)) : Int).toNat v6) (gR (gw (gw s5 (gR s5 217 1) ((g32 (76 + (g32 (2 * (gI s5 (gR s5 217 1) 5))))) : Int).toNat v4) (gR (gw s5 (gR s5 217 1) ((g32 (76 + (g32 (2 * (gI s5 (gR s5 217 1) 5))))) : Int).toNat v4) 217 1) ((g32 ((g32 (76 + (g32 (2 * (gI (gw s5 (gR s5 217 1) ((g32 (76 + (g32 (2 * (gI s5 (gR s5 217 1) 5))))) : Int).toNat v4) (gR (gw s5 (gR s5 217 1) ((g32 (76 + (g32 (2 * (gI s5 (gR s5 217 1) 5))))) : Int).toNat v4) 217 1) 5))))) + 1)) : Int).toNat v6) 217 1) 5) + 1))) := (E_w hs227)
    try simp only [E_R hs228, E_i hs228, E_1 hs228, E_7 hs228, E_14 hs228]
    refine gG_ite ?_ ?_
    · refine gG_chk ?_
      refine gG_chk ?_
      exact gG_ret ⟨rfl, rfl, rfl, hs228⟩
    · exact gG_ret ⟨rfl, rfl, rfl, h225⟩
  · unfold fb_179_16
    dsimp only
    try simp only [E_R h, E_i h, E_1 h, E_7 h, E_14 h]
    refine gG_v1 (n_175 h) (fun v4 s3 s3p h229 => ?_)
    try simp only [E_R h229, E_i h229, E_1 h229, E_7 h229, E_14 h229]
    refine gG_v1 (n_176 h229) (fun v6 s5 s5p h230 => ?_)
    try simp only [E_R h230, E_i h230, E_1 h230, E_7 h230, E_14 h230]
    have hs231 : Eq8 (gw s5 (gR s5 217 1) ((g32 (76 + (g32 (2 * (gI s5 (gR s5 217 1) 5))))) : Int).toNat v4) (gw s5p (gR s5 217 1) ((g32 (76 + (g32 (2 * (gI s5 (gR s5 217 1) 5))))) : Int).toNat v4) := (E_w h230)
    try simp only [E_R hs231, E_i hs231, E_1 hs231, E_7 hs231, E_14 hs231]
    have hs232 : Eq8 (gw (gw s5 (gR s5 217 1) ((g32 (76 + (g32 (2 * (gI s5 (gR s5 217 1) 5))))) : Int).toNat v4) (gR (gw s5 (gR s5 217 1) ((g32 (76 + (g32 (2 * (gI s5 (gR s5 217 1) 5))))) : Int).toNat v4) 217 1) ((g32 ((g32 (76 + (g32 (2 * (gI (gw s5 (gR s5 217 1) ((g32 (76 + (g32 (2 * (gI s5 (gR s5 217 1) 5))))) : Int).toNat v4) (gR (gw s5 (gR s5 217 1) ((g32 (76 + (g32 (2 * (gI s5 (gR s5 217 1) 5))))) : Int).toNat v4) 217 1) 5))))) + 1)) : Int).toNat v6) (gw (gw s5p (gR s5 217 1) ((g32 (76 + (g32 (2 * (gI s5 (gR s5 217 1) 5))))) : Int).toNat v4) (gR (gw s5 (gR s5 217 1) ((g32 (76 + (g32 (2 * (gI s5 (gR s5 217 1) 5))))) : Int).toNat v4) 217 1) ((g32 ((g32 (76 + (g32 (2 * (gI (gw s5 (gR s5 217 1) ((g32 (76 + (g32 (2 * (gI s5 (gR s5 217 1) 5))))) : Int).toNat v4) (gR (gw s5 (gR s5 217 1) ((g32 (76 + (g32 (2 * (gI s5 (gR s5 217 1) 5))))) : Int).toNat v4) 217 1) 5))))) + 1)) : Int).toNat v6) := (E_w hs231)
    try simp only [E_R hs232, E_i hs232, E_1 hs232, E_7 hs232, E_14 hs232]
    have hs233 : Eq8 (gw (gw (gw s5 (gR s5 217 1) ((g32 (76 + (g32 (2 * (gI s5 (gR s5 217 1) 5))))) : Int).toNat v4) (gR (gw s5 (gR s5 217 1) ((g32 (76 + (g32 (2 * (gI s5 (gR s5 217 1) 5))))) : Int).toNat v4) 217 1) ((g32 ((g32 (76 + (g32 (2 * (gI (gw s5 (gR s5 217 1) ((g32 (76 + (g32 (2 * (gI s5 (gR s5 217 1) 5))))) : Int).toNat v4) (gR (gw s5 (gR s5 217 1) ((g32 (76 + (g32 (2 * (gI s5 (gR s5 217 1) 5))))) : Int).toNat v4) 217 1) 5))))) + 1)) : Int).toNat v6) (gR (gw (gw s5 (gR s5 217 1) ((g32 (76 + (g32 (2 * (gI s5 (gR s5 217 1) 5))))) : Int).toNat v4) (gR (gw s5 (gR s5 217 1) ((g32 (76 + (g32 (2 * (gI s5 (gR s5 217 1) 5))))) : Int).toNat v4) 217 1) ((g32 ((g32 (76 + (g32 (2 * (gI (gw s5 (gR s5 217 1) ((g32 (76 + (g32 (2 * (gI s5 (gR s5 217 1) 5))))) : Int).toNat v4) (gR (gw s5 (gR s5 217 1) ((g32 (76 + (g32 (2 * (gI s5 (gR s5 217 1) 5))))) : Int).toNat v4) 217 1) 5))))) + 1)) : Int).toNat v6) 217 1) 5 (g32 ((gI (gw (gw s5 (gR s5 217 1) ((g32 (76 + (g32 (2 * (gI s5 (gR s5 217 1) 5))))) : Int).toNat v4) (gR (gw s5 (gR s5 217 1) ((g32 (76 + (g32 (2 * (gI s5 (gR s5 217 1) 5))))) : Int).toNat v4) 217 1) ((g32 ((g32 (76 + (g32 (2 * (gI (gw s5 (gR s5 217 1) ((g32 (76 + (g32 (2 * (gI s5 (gR s5 217 1) 5))))) : Int).toNat v4) (gR (gw s5 (gR s5 217 1) ((g32 (76 + (g32 (2 * (gI s5 (gR s5 217 1) 5))))) : Int).toNat v4) 217 1) 5))))) + 1)) : Int).toNat v6) (gR (gw (gw s5 (gR s5 217 1) ((g32 (76 + (g32 (2 * (gI s5 (gR s5 217 1) 5))))) : Int).toNat v4) (gR (gw s5 (gR s5 217 1) ((g32 (76 + (g32 (2 * (gI s5 (gR s5 217 1) 5))))) : Int).toNat v4) 217 1) ((g32 ((g32 (76 + (g32 (2 * (gI (gw s5 (gR s5 217 1) ((g32 (76 + (g32 (2 * (gI s5 (gR s5 217 1) 5))))) : Int).toNat v4) (gR (gw s5 (gR s5 217 1) ((g32 (76 + (g32 (2 * (gI s5 (gR s5 217 1) 5))))) : Int).toNat v4) 217 1) 5))))) + 1)) : Int).toNat v6) 217 1) 5) + 1))) (gw (gw (gw s5p (gR s5 217 1) ((g32 (76 + (g32 (2 * (gI s5 (gR s5 217 1) 5))))) : Int).toNat v4) (gR (gw s5 (gR s5 217 1) ((g32 (76 + (g32 (2 * (gI s5 (gR s5 217 1) 5))))) : Int).toNat v4) 217 1) ((g32 ((g32 (76 + (g32 (2 * (gI (gw s5 (gR s5 217 1) ((g32 (76 + (g32 (2 * (gI s5 (gR s5 217 1) 5))))) : Int).toNat v4) (gR (gw s5 (gR s5 217 1) ((g32 (76 + (g32 (2 * (gI s5 (gR s5 217 1) 5))))) : Int).toNat v4) 217 1) 5))))) + 1)) : Int).toNat v6) (gR (gw (gw s5 (gR s5 217 1) ((g32 (76 + (g32 (2 * (gI s5 (gR s5 217 1) 5))))) : Int).toNat v4) (gR (gw s5 (gR s5 217 1) ((g32 (76 + (g32 (2 * (gI s5 (gR s5 217 1) 5))))) : Int).toNat v4) 217 1) ((g32 ((g32 (76 + (g32 (2 * (gI (gw s5 (gR s5 217 1) ((g32 (76 + (g32 (2 * (gI s5 (gR s5 217 1) 5))))) : Int).toNat v4) (gR (gw s5 (gR s5 217 1) ((g32 (76 + (g32 (2 * (gI s5 (gR s5 217 1) 5))))) : Int).toNat v4) 217 1) 5))))) + 1)) : Int).toNat v6) 217 1) 5 (g32 ((gI (gw (gw s5 (gR s5 217 1) ((g32 (76 + (g32 (2 * (gI s5 (gR s5 217 1) 5))))) : Int).toNat v4) (gR (gw s5 (gR s5 217 1) ((g32 (76 + (g32 (2 * (gI s5 (gR s5 217 1) 5))))) : Int).toNat v4) 217 1) ((g32 ((g32 (76 + (g32 (2 * (gI (gw s5 (gR s5 217 1) ((g32 (76 + (g32 (2 * (gI s5 (gR s5 217 1) 5))))) : Int).toNat v4) (gR (gw s5 (gR s5 217 1) ((g32 (76 + (g32 (2 * (gI s5 (gR s5 217 1) 5))))) : Int).toNat v4) 217 1) 5))))) + 1)) : Int).toNat v6) (gR (gw (gw s5 (gR s5 217 1) ((g32 (76 + (g32 (2 * (gI s5 (gR s5 217 1) 5))))) : Int).toNat v4) (gR (gw s5 (gR s5 217 1) ((g32 (76 + (g32 (2 * (gI s5 (gR s5 217 1) 5))))) : Int).toNat v4) 217 1) ((g32 ((g32 (76 + (g32 (2 * (gI (gw s5 (gR s5 217 1) ((g32 (76 + (g32 (2 * (gI s5 (gR s5 217 1) 5))))) : Int).toNat v4) (gR (gw s5 (gR s5 217 1) ((g32 (76 + (g32 (2 * (gI s5 (gR s5 217 1) 5))))) : Int).toNat v4) 217 1) 5))))) + 1)) : Int).toNat v6) 217 1) 5) + 1))) := (E_w hs232)
    try simp only [E_R hs233, E_i hs233, E_1 hs233, E_7 hs233, E_14 hs233]
    refine gG_ite ?_ ?_
    · refine gG_chk ?_
      refine gG_chk ?_
      exact gG_ret ⟨rfl, rfl, rfl, hs233⟩
    · exact gG_ret ⟨rfl, rfl, rfl, h230⟩

theorem n_180  {a1 : Int} {s s' : gS}  (h : Eq8 s s') : gG PE (f_180 217 a1 s) (f_180 217 a1 s') := by
  unfold f_180
  try simp only [E_R h, E_i h, E_1 h, E_7 h, E_14 h]
  refine gG_ite ?_ ?_
  · refine gG_v0 (n_172 h) (fun s1 s1p h234 => ?_)
    try simp only [E_R h234, E_i h234, E_1 h234, E_7 h234, E_14 h234]
    unfold fb_180_17
    dsimp only
    try simp only [E_R h234, E_i h234, E_1 h234, E_7 h234, E_14 h234]
    refine gG_v1 (n_174 h234) (fun v4 s3 s3p h235 => ?_)
    try simp only [E_R h235, E_i h235, E_1 h235, E_7 h235, E_14 h235]
    have hs236 : Eq8 (gw s3 (gR s3 217 1) ((g32 ((g32 (88 + (g32 (2 * (gI s3 (gR s3 217 1) 6))))) + 0)) : Int).toNat v4) (gw s3p (gR s3 217 1) ((g32 ((g32 (88 + (g32 (2 * (gI s3 (gR s3 217 1) 6))))) + 0)) : Int).toNat v4) := (E_w h235)
    try simp only [E_R hs236, E_i hs236, E_1 hs236, E_7 hs236, E_14 hs236]
    have hs237 : Eq8 (gw (gw s3 (gR s3 217 1) ((g32 ((g32 (88 + (g32 (2 * (gI s3 (gR s3 217 1) 6))))) + 0)) : Int).toNat v4) (gR (gw s3 (gR s3 217 1) ((g32 ((g32 (88 + (g32 (2 * (gI s3 (gR s3 217 1) 6))))) + 0)) : Int).toNat v4) 217 1) ((g32 ((g32 (88 + (g32 (2 * (gI (gw s3 (gR s3 217 1) ((g32 ((g32 (88 + (g32 (2 * (gI s3 (gR s3 217 1) 6))))) + 0)) : Int).toNat v4) (gR (gw s3 (gR s3 217 1) ((g32 ((g32 (88 + (g32 (2 * (gI s3 (gR s3 217 1) 6))))) + 0)) : Int).toNat v4) 217 1) 6))))) + 1)) : Int).toNat 0) (gw (gw s3p (gR s3 217 1) ((g32 ((g32 (88 + (g32 (2 * (gI s3 (gR s3 217 1) 6))))) + 0)) : Int).toNat v4) (gR (gw s3 (gR s3 217 1) ((g32 ((g32 (88 + (g32 (2 * (gI s3 (gR s3 217 1) 6))))) + 0)) : Int).toNat v4) 217 1) ((g32 ((g32 (88 + (g32 (2 * (gI (gw s3 (gR s3 217 1) ((g32 ((g32 (88 + (g32 (2 * (gI s3 (gR s3 217 1) 6))))) + 0)) : Int).toNat v4) (gR (gw s3 (gR s3 217 1) ((g32 ((g32 (88 + (g32 (2 * (gI s3 (gR s3 217 1) 6))))) + 0)) : Int).toNat v4) 217 1) 6))))) + 1)) : Int).toNat 0) := (E_w hs236)
    try simp only [E_R hs237, E_i hs237, E_1 hs237, E_7 hs237, E_14 hs237]
    have hs238 : Eq8 (gw (gw (gw s3 (gR s3 217 1) ((g32 ((g32 (88 + (g32 (2 * (gI s3 (gR s3 217 1) 6))))) + 0)) : Int).toNat v4) (gR (gw s3 (gR s3 217 1) ((g32 ((g32 (88 + (g32 (2 * (gI s3 (gR s3 217 1) 6))))) + 0)) : Int).toNat v4) 217 1) ((g32 ((g32 (88 + (g32 (2 * (gI (gw s3 (gR s3 217 1) ((g32 ((g32 (88 + (g32 (2 * (gI s3 (gR s3 217 1) 6))))) + 0)) : Int).toNat v4) (gR (gw s3 (gR s3 217 1) ((g32 ((g32 (88 + (g32 (2 * (gI s3 (gR s3 217 1) 6))))) + 0)) : Int).toNat v4) 217 1) 6))))) + 1)) : Int).toNat 0) (gR (gw (gw s3 (gR s3 217 1) ((g32 ((g32 (88 + (g32 (2 * (gI s3 (gR s3 217 1) 6))))) + 0)) : Int).toNat v4) (gR (gw s3 (gR s3 217 1) ((g32 ((g32 (88 + (g32 (2 * (gI s3 (gR s3 217 1) 6))))) + 0)) : Int).toNat v4) 217 1) ((g32 ((g32 (88 + (g32 (2 * (gI (gw s3 (gR s3 217 1) ((g32 ((g32 (88 + (g32 (2 * (gI s3 (gR s3 217 1) 6))))) + 0)) : Int).toNat v4) (gR (gw s3 (gR s3 217 1) ((g32 ((g32 (88 + (g32 (2 * (gI s3 (gR s3 217 1) 6))))) + 0)) : Int).toNat v4) 217 1) 6))))) + 1)) : Int).toNat 0) 217 1) 6 (g32 ((gI (gw (gw s3 (gR s3 217 1) ((g32 ((g32 (88 + (g32 (2 * (gI s3 (gR s3 217 1) 6))))) + 0)) : Int).toNat v4) (gR (gw s3 (gR s3 217 1) ((g32 ((g32 (88 + (g32 (2 * (gI s3 (gR s3 217 1) 6))))) + 0)) : Int).toNat v4) 217 1) ((g32 ((g32 (88 + (g32 (2 * (gI (gw s3 (gR s3 217 1) ((g32 ((g32 (88 + (g32 (2 * (gI s3 (gR s3 217 1) 6))))) + 0)) : Int).toNat v4) (gR (gw s3 (gR s3 217 1) ((g32 ((g32 (88 + (g32 (2 * (gI s3 (gR s3 217 1) 6))))) + 0)) : Int).toNat v4) 217 1) 6))))) + 1)) : Int).toNat 0) (gR (gw (gw s3 (gR s3 217 1) ((g32 ((g32 (88 + (g32 (2 * (gI s3 (gR s3 217 1) 6))))) + 0)) : Int).toNat v4) (gR (gw s3 (gR s3 217 1) ((g32 ((g32 (88 + (g32 (2 * (gI s3 (gR s3 217 1) 6))))) + 0)) : Int).toNat v4) 217 1) ((g32 ((g32 (88 + (g32 (2 * (gI (gw s3 (gR s3 217 1) ((g32 ((g32 (88 + (g32 (2 * (gI s3 (gR s3 217 1) 6))))) + 0)) : Int).toNat v4) (gR (gw s3 (gR s3 217 1) ((g32 ((g32 (88 + (g32 (2 * (gI s3 (gR s3 217 1) 6))))) + 0)) : Int).toNat v4) 217 1) 6))))) + 1)) : Int).toNat 0) 217 1) 6) + 1))) (gw (gw (gw s3p (gR s3 217 1) ((g32 ((g32 (88 + (g32 (2 * (gI s3 (gR s3 217 1) 6))))) + 0)) : Int).toNat v4) (gR (gw s3 (gR s3 217 1) ((g32 ((g32 (88 + (g32 (2 * (gI s3 (gR s3 217 1) 6))))) + 0)) : Int).toNat v4) 217 1) ((g32 ((g32 (88 + (g32 (2 * (gI (gw s3 (gR s3 217 1) ((g32 ((g32 (88 + (g32 (2 * (gI s3 (gR s3 217 1) 6))))) + 0)) : Int).toNat v4) (gR (gw s3 (gR s3 217 1) ((g32 ((g32 (88 + (g32 (2 * (gI s3 (gR s3 217 1) 6))))) + 0)) : Int).toNat v4) 217 1) 6))))) + 1)) : Int).toNat 0) (gR (gw (gw s3 (gR s3 217 1) ((g32 ((g32 (88 + (g32 (2 * (gI s3 (gR s3 217 1) 6))))) + 0)) : Int).toNat v4) (gR (gw s3 (gR s3 217 1) ((g32 ((g32 (88 + (g32 (2 * (gI s3 (gR s3 217 1) 6))))) + 0)) : Int).toNat v4) 217 1) ((g32 ((g32 (88 + (g32 (2 * (gI (gw s3 (gR s3 217 1) ((g32 ((g32 (88 + (g32 (2 * (gI s3 (gR s3 217 1) 6))))) + 0)) : Int).toNat v4) (gR (gw s3 (gR s3 217 1) ((g32 ((g32 (88 + (g32 (2 * (gI s3 (gR s3 217 1) 6))))) + 0)) : Int).toNat v4) 217 1) 6))))) + 1)) : Int).toNat 0) 217 1) 6 (g32 ((gI (gw (gw s3 (gR s3 217 1) ((g32 ((g32 (88 + (g32 (2 * (gI s3 (gR s3 217 1) 6))))) + 0)) : Int).toNat v4) (gR (gw s3 (gR s3 217 1) ((g32 ((g32 (88 + (g32 (2 * (gI s3 (gR s3 217 1) 6))))) + 0)) : Int).toNat v4) 217 1) ((g32 ((g32 (88 + (g32 (2 * (gI (gw s3 (gR s3 217 1) ((g32 ((g32 (88 + (g32 (2 * (gI s3 (gR s3 217 1) 6))))) + 0)) : Int).toNat v4) (gR (gw s3 (gR s3 217 1) ((g32 ((g32 (88 + (g32 (2 * (gI s3 (gR s3 217 1) 6))))) + 0)) : Int).toNat v4) 217 1) 6))))) + 1)) : Int).toNat 0) (gR (gw (gw s3 (gR s3 217 1) ((g32 ((g32 (88 + (g32 (2 * (gI s3 (gR s3 217 1) 6))))) + 0)) : Int).toNat v4) (gR (gw s3 (gR s3 217 1) ((g32 ((g32 (88 + (g32 (2 * (gI s3 (gR s3 217 1) 6))))) + 0)) : Int).toNat v4) 217 1) ((g32 ((g32 (88 + (g32 (2 * (gI (gw s3 (gR s3 217 1) ((g32 ((g32 (88 + (g32 (2 * (gI s3 (gR s3 217 1) 6))))) + 0)) : Int).toNat v4) (gR (gw s3 (gR s3 217 1) ((g32 ((g32 (88 + (g32 (2 * (gI s3 (gR s3 217 1) 6))))) + 0)) : Int).toNat v4) 217 1) 6))))) + 1)) : Int).toNat 0) 217 1) 6) + 1))) := (E_w hs237)
    try simp only [E_R hs238, E_i hs238, E_1 hs238, E_7 hs238, E_14 hs238]
    refine gG_ite ?_ ?_
    · refine gG_chk ?_
      refine gG_chk ?_
      exact gG_ret ⟨rfl, rfl, rfl, hs238⟩
    · exact gG_ret ⟨rfl, rfl, rfl, h235⟩
  · unfold fb_180_17
    dsimp only
    try simp only [E_R h, E_i h, E_1 h, E_7 h, E_14 h]
    refine gG_v1 (n_174 h) (fun v4 s3 s3p h239 => ?_)
    try simp only [E_R h239, E_i h239, E_1 h239, E_7 h239, E_14 h239]
    have hs240 : Eq8 (gw s3 (gR s3 217 1) ((g32 ((g32 (88 + (g32 (2 * (gI s3 (gR s3 217 1) 6))))) + 0)) : Int).toNat v4) (gw s3p (gR s3 217 1) ((g32 ((g32 (88 + (g32 (2 * (gI s3 (gR s3 217 1) 6))))) + 0)) : Int).toNat v4) := (E_w h239)
    try simp only [E_R hs240, E_i hs240, E_1 hs240, E_7 hs240, E_14 hs240]
    have hs241 : Eq8 (gw (gw s3 (gR s3 217 1) ((g32 ((g32 (88 + (g32 (2 * (gI s3 (gR s3 217 1) 6))))) + 0)) : Int).toNat v4) (gR (gw s3 (gR s3 217 1) ((g32 ((g32 (88 + (g32 (2 * (gI s3 (gR s3 217 1) 6))))) + 0)) : Int).toNat v4) 217 1) ((g32 ((g32 (88 + (g32 (2 * (gI (gw s3 (gR s3 217 1) ((g32 ((g32 (88 + (g32 (2 * (gI s3 (gR s3 217 1) 6))))) + 0)) : Int).toNat v4) (gR (gw s3 (gR s3 217 1) ((g32 ((g32 (88 + (g32 (2 * (gI s3 (gR s3 217 1) 6))))) + 0)) : Int).toNat v4) 217 1) 6))))) + 1)) : Int).toNat 0) (gw (gw s3p (gR s3 217 1) ((g32 ((g32 (88 + (g32 (2 * (gI s3 (gR s3 217 1) 6))))) + 0)) : Int).toNat v4) (gR (gw s3 (gR s3 217 1) ((g32 ((g32 (88 + (g32 (2 * (gI s3 (gR s3 217 1) 6))))) + 0)) : Int).toNat v4) 217 1) ((g32 ((g32 (88 + (g32 (2 * (gI (gw s3 (gR s3 217 1) ((g32 ((g32 (88 + (g32 (2 * (gI s3 (gR s3 217 1) 6))))) + 0)) : Int).toNat v4) (gR (gw s3 (gR s3 217 1) ((g32 ((g32 (88 + (g32 (2 * (gI s3 (gR s3 217 1) 6))))) + 0)) : Int).toNat v4) 217 1) 6))))) + 1)) : Int).toNat 0) := (E_w hs240)
    try simp only [E_R hs241, E_i hs241, E_1 hs241, E_7 hs241, E_14 hs241]
    have hs242 : Eq8 (gw (gw (gw s3 (gR s3 217 1) ((g32 ((g32 (88 + (g32 (2 * (gI s3 (gR s3 217 1) 6))))) + 0)) : Int).toNat v4) (gR (gw s3 (gR s3 217 1) ((g32 ((g32 (88 + (g32 (2 * (gI s3 (gR s3 217 1) 6))))) + 0)) : Int).toNat v4) 217 1) ((g32 ((g32 (88 + (g32 (2 * (gI (gw s3 (gR s3 217 1) ((g32 ((g32 (88 + (g32 (2 * (gI s3 (gR s3 217 1) 6))))) + 0)) : Int).toNat v4) (gR (gw s3 (gR s3 217 1) ((g32 ((g32 (88 + (g32 (2 * (gI s3 (gR s3 217 1) 6))))) + 0)) : Int).toNat v4) 217 1) 6))))) + 1)) : Int).toNat 0) (gR (gw (gw s3 (gR s3 217 1) ((g32 ((g32 (88 + (g32 (2 * (gI s3 (gR s3 217 1) 6))))) + 0)) : Int).toNat v4) (gR (gw s3 (gR s3 217 1) ((g32 ((g32 (88 + (g32 (2 * (gI s3 (gR s3 217 1) 6))))) + 0)) : Int).toNat v4) 217 1) ((g32 ((g32 (88 + (g32 (2 * (gI (gw s3 (gR s3 217 1) ((g32 ((g32 (88 + (g32 (2 * (gI s3 (gR s3 217 1) 6))))) + 0)) : Int).toNat v4) (gR (gw s3 (gR s3 217 1) ((g32 ((g32 (88 + (g32 (2 * (gI s3 (gR s3 217 1) 6))))) + 0)) : Int).toNat v4) 217 1) 6))))) + 1)) : Int).toNat 0) 217 1) 6 (g32 ((gI (gw (gw s3 (gR s3 217 1) ((g32 ((g32 (88 + (g32 (2 * (gI s3 (gR s3 217 1) 6))))) + 0)) : Int).toNat v4) (gR (gw s3 (gR s3 217 1) ((g32 ((g32 (88 + (g32 (2 * (gI s3 (gR s3 217 1) 6))))) + 0)) : Int).toNat v4) 217 1) ((g32 ((g32 (88 + (g32 (2 * (gI (gw s3 (gR s3 217 1) ((g32 ((g32 (88 + (g32 (2 * (gI s3 (gR s3 217 1) 6))))) + 0)) : Int).toNat v4) (gR (gw s3 (gR s3 217 1) ((g32 ((g32 (88 + (g32 (2 * (gI s3 (gR s3 217 1) 6))))) + 0)) : Int).toNat v4) 217 1) 6))))) + 1)) : Int).toNat 0) (gR (gw (gw s3 (gR s3 217 1) ((g32 ((g32 (88 + (g32 (2 * (gI s3 (gR s3 217 1) 6))))) + 0)) : Int).toNat v4) (gR (gw s3 (gR s3 217 1) ((g32 ((g32 (88 + (g32 (2 * (gI s3 (gR s3 217 1) 6))))) + 0)) : Int).toNat v4) 217 1) ((g32 ((g32 (88 + (g32 (2 * (gI (gw s3 (gR s3 217 1) ((g32 ((g32 (88 + (g32 (2 * (gI s3 (gR s3 217 1) 6))))) + 0)) : Int).toNat v4) (gR (gw s3 (gR s3 217 1) ((g32 ((g32 (88 + (g32 (2 * (gI s3 (gR s3 217 1) 6))))) + 0)) : Int).toNat v4) 217 1) 6))))) + 1)) : Int).toNat 0) 217 1) 6) + 1))) (gw (gw (gw s3p (gR s3 217 1) ((g32 ((g32 (88 + (g32 (2 * (gI s3 (gR s3 217 1) 6))))) + 0)) : Int).toNat v4) (gR (gw s3 (gR s3 217 1) ((g32 ((g32 (88 + (g32 (2 * (gI s3 (gR s3 217 1) 6))))) + 0)) : Int).toNat v4) 217 1) ((g32 ((g32 (88 + (g32 (2 * (gI (gw s3 (gR s3 217 1) ((g32 ((g32 (88 + (g32 (2 * (gI s3 (gR s3 217 1) 6))))) + 0)) : Int).toNat v4) (gR (gw s3 (gR s3 217 1) ((g32 ((g32 (88 + (g32 (2 * (gI s3 (gR s3 217 1) 6))))) + 0)) : Int).toNat v4) 217 1) 6))))) + 1)) : Int).toNat 0) (gR (gw (gw s3 (gR s3 217 1) ((g32 ((g32 (88 + (g32 (2 * (gI s3 (gR s3 217 1) 6))))) + 0)) : Int).toNat v4) (gR (gw s3 (gR s3 217 1) ((g32 ((g32 (88 + (g32 (2 * (gI s3 (gR s3 217 1) 6))))) + 0)) : Int).toNat v4) 217 1) ((g32 ((g32 (88 + (g32 (2 * (gI (gw s3 (gR s3 217 1) ((g32 ((g32 (88 + (g32 (2 * (gI s3 (gR s3 217 1) 6))))) + 0)) : Int).toNat v4) (gR (gw s3 (gR s3 217 1) ((g32 ((g32 (88 + (g32 (2 * (gI s3 (gR s3 217 1) 6))))) + 0)) : Int).toNat v4) 217 1) 6))))) + 1)) : Int).toNat 0) 217 1) 6 (g32 ((gI (gw (gw s3 (gR s3 217 1) ((g32 ((g32 (88 + (g32 (2 * (gI s3 (gR s3 217 1) 6))))) + 0)) : Int).toNat v4) (gR (gw s3 (gR s3 217 1) ((g32 ((g32 (88 + (g32 (2 * (gI s3 (gR s3 217 1) 6))))) + 0)) : Int).toNat v4) 217 1) ((g32 ((g32 (88 + (g32 (2 * (gI (gw s3 (gR s3 217 1) ((g32 ((g32 (88 + (g32 (2 * (gI s3 (gR s3 217 1) 6))))) + 0)) : Int).toNat v4) (gR (gw s3 (gR s3 217 1) ((g32 ((g32 (88 + (g32 (2 * (gI s3 (gR s3 217 1) 6))))) + 0)) : Int).toNat v4) 217 1) 6))))) + 1)) : Int).toNat 0) (gR (gw (gw s3 (gR s3 217 1) ((g32 ((g32 (88 + (g32 (2 * (gI s3 (gR s3 217 1) 6))))) + 0)) : Int).toNat v4) (gR (gw s3 (gR s3 217 1) ((g32 ((g32 (88 + (g32 (2 * (gI s3 (gR s3 217 1) 6))))) + 0)) : Int).toNat v4) 217 1) ((g32 ((g32 (88 + (g32 (2 * (gI (gw s3 (gR s3 217 1) ((g32 ((g32 (88 + (g32 (2 * (gI s3 (gR s3 217 1) 6))))) + 0)) : Int).toNat v4) (gR (gw s3 (gR s3 217 1) ((g32 ((g32 (88 + (g32 (2 * (gI s3 (gR s3 217 1) 6))))) + 0)) : Int).toNat v4) 217 1) 6))))) + 1)) : Int).toNat 0) 217 1) 6) + 1))) := (E_w hs241)
    try simp only [E_R hs242, E_i hs242, E_1 hs242, E_7 hs242, E_14 hs242]
    refine gG_ite ?_ ?_
    · refine gG_chk ?_
      refine gG_chk ?_
      exact gG_ret ⟨rfl, rfl, rfl, hs242⟩
    · exact gG_ret ⟨rfl, rfl, rfl, h239⟩

theorem n_181  {a1 : Int} {a2 : Int} {s s' : gS}  (h : Eq8 s s') : gG PE (f_181 217 a1 a2 s) (f_181 217 a1 a2 s') := by
  unfold f_181
  dsimp only
  try simp only [E_R h, E_i h, E_1 h, E_7 h, E_14 h]
  refine gG_v1 (n_174 h) (fun v2 s1 s1p h243 => ?_)
  try simp only [E_R h243, E_i h243, E_1 h243, E_7 h243, E_14 h243]
  have hs244 : Eq8 (gw s1 (gR s1 217 1) (a1 : Int).toNat v2) (gw s1p (gR s1 217 1) (a1 : Int).toNat v2) := (E_w h243)
  try simp only [E_R hs244, E_i hs244, E_1 hs244, E_7 hs244, E_14 hs244]
  refine gG_ite ?_ ?_
  · refine gG_chk ?_
    exact gG_ret ⟨rfl, rfl, rfl, hs244⟩
  · exact gG_ret ⟨rfl, rfl, rfl, h243⟩

theorem n_182   {s s' : gS}  (h : Eq8 s s') : gG PE (f_182 217 s) (f_182 217 s') := by
  unfold f_182
  try simp only [E_R h, E_i h, E_1 h, E_7 h, E_14 h]
  refine gG_v1 (n_173 h) (fun v2 s1 s1p h245 => ?_)
  try simp only [E_R h245, E_i h245, E_1 h245, E_7 h245, E_14 h245]
  refine gG_v1 (n_171 h245) (fun v4 s3 s3p h246 => ?_)
  try simp only [E_R h246, E_i h246, E_1 h246, E_7 h246, E_14 h246]
  refine gG_ite ?_ ?_
  · refine gG_v1 (n_171 h246) (fun v7 s6 s6p h247 => ?_)
    try simp only [E_R h247, E_i h247, E_1 h247, E_7 h247, E_14 h247]
    refine gG_ite ?_ ?_
    · refine gG_v1 (n_171 h247) (fun v10 s9 s9p h248 => ?_)
      try simp only [E_R h248, E_i h248, E_1 h248, E_7 h248, E_14 h248]
      refine gG_ite ?_ ?_
      · refine gG_v1 (n_171 h248) (fun v13 s12 s12p h249 => ?_)
        try simp only [E_R h249, E_i h249, E_1 h249, E_7 h249, E_14 h249]
        refine gG_ite ?_ ?_
        · refine gG_v1 (n_171 h249) (fun v16 s15 s15p h250 => ?_)
          try simp only [E_R h250, E_i h250, E_1 h250, E_7 h250, E_14 h250]
          refine gG_ite ?_ ?_
          · refine gG_v1 (n_171 h250) (fun v19 s18 s18p h251 => ?_)
            try simp only [E_R h251, E_i h251, E_1 h251, E_7 h251, E_14 h251]
            refine gG_ite ?_ ?_
            · refine gG_v1 (n_171 h251) (fun v22 s21 s21p h252 => ?_)
              try simp only [E_R h252, E_i h252, E_1 h252, E_7 h252, E_14 h252]
              refine gG_ite ?_ ?_
              · refine gG_v1 (n_171 h252) (fun v25 s24 s24p h253 => ?_)
                try simp only [E_R h253, E_i h253, E_1 h253, E_7 h253, E_14 h253]
                refine gG_ite ?_ ?_
                · refine gG_v0 (n_172 h253) (fun s27 s27p h254 => ?_)
                  try simp only [E_R h254, E_i h254, E_1 h254, E_7 h254, E_14 h254]
                  exact gG_ret ⟨rfl, rfl, rfl, h254⟩
                · refine gG_v0 (n_181 h253) (fun s29 s29p h255 => ?_)
                  try simp only [E_R h255, E_i h255, E_1 h255, E_7 h255, E_14 h255]
                  exact gG_ret ⟨rfl, rfl, rfl, h255⟩
              · refine gG_v0 (n_181 h252) (fun s31 s31p h256 => ?_)
                try simp only [E_R h256, E_i h256, E_1 h256, E_7 h256, E_14 h256]
                exact gG_ret ⟨rfl, rfl, rfl, h256⟩
            · refine gG_v0 (n_181 h251) (fun s33 s33p h257 => ?_)
              try simp only [E_R h257, E_i h257, E_1 h257, E_7 h257, E_14 h257]
              exact gG_ret ⟨rfl, rfl, rfl, h257⟩
          · refine gG_v0 (n_181 h250) (fun s35 s35p h258 => ?_)
            try simp only [E_R h258, E_i h258, E_1 h258, E_7 h258, E_14 h258]
            exact gG_ret ⟨rfl, rfl, rfl, h258⟩
        · refine gG_v0 (n_180 h249) (fun s37 s37p h259 => ?_)
          try simp only [E_R h259, E_i h259, E_1 h259, E_7 h259, E_14 h259]
          exact gG_ret ⟨rfl, rfl, rfl, h259⟩
      · refine gG_v0 (n_179 h248) (fun s39 s39p h260 => ?_)
        try simp only [E_R h260, E_i h260, E_1 h260, E_7 h260, E_14 h260]
        exact gG_ret ⟨rfl, rfl, rfl, h260⟩
    · refine gG_v0 (n_178 h247) (fun s41 s41p h261 => ?_)
      try simp only [E_R h261, E_i h261, E_1 h261, E_7 h261, E_14 h261]
      exact gG_ret ⟨rfl, rfl, rfl, h261⟩
  · refine gG_v0 (n_177 h246) (fun s43 s43p h262 => ?_)
    try simp only [E_R h262, E_i h262, E_1 h262, E_7 h262, E_14 h262]
    exact gG_ret ⟨rfl, rfl, rfl, h262⟩

theorem n_188   {s s' : gS}  (h : Eq8 s s') : gG PE (f_188 217 s) (f_188 217 s') := by
  unfold f_188
  try simp only [E_R h, E_i h, E_1 h, E_7 h, E_14 h]
  refine gG_ite ?_ ?_
  · refine gG_v0 (n_169 h) (fun s1 s1p h263 => ?_)
    try simp only [E_R h263, E_i h263, E_1 h263, E_7 h263, E_14 h263]
    refine gG_ite ?_ ?_
    · refine gG_v1 (n_168 h263) (fun v4 s3 s3p h264 => ?_)
      try simp only [E_R h264, E_i h264, E_1 h264, E_7 h264, E_14 h264]
      refine gG_v1 (n_150 h264) (fun v6 s5 s5p h265 => ?_)
      try simp only [E_R h265, E_i h265, E_1 h265, E_7 h265, E_14 h265]
      refine gG_ite ?_ ?_
      · unfold fb_188_52
        try simp only [E_R h265, E_i h265, E_1 h265, E_7 h265, E_14 h265]
        refine gG_v1 (n_171 h265) (fun v9 s8 s8p h266 => ?_)
        try simp only [E_R h266, E_i h266, E_1 h266, E_7 h266, E_14 h266]
        refine gG_ite ?_ ?_
        · refine gG_v1 (n_171 h266) (fun v12 s11 s11p h267 => ?_)
          try simp only [E_R h267, E_i h267, E_1 h267, E_7 h267, E_14 h267]
          refine gG_ite ?_ ?_
          · refine gG_v1 (n_171 h267) (fun v15 s14 s14p h268 => ?_)
            try simp only [E_R h268, E_i h268, E_1 h268, E_7 h268, E_14 h268]
            refine gG_ite ?_ ?_
            · refine gG_v1 (n_171 h268) (fun v18 s17 s17p h269 => ?_)
              try simp only [E_R h269, E_i h269, E_1 h269, E_7 h269, E_14 h269]
              refine gG_ite ?_ ?_
              · refine gG_v1 (n_171 h269) (fun v21 s20 s20p h270 => ?_)
                try simp only [E_R h270, E_i h270, E_1 h270, E_7 h270, E_14 h270]
                refine gG_ite ?_ ?_
                · refine gG_v1 (n_171 h270) (fun v24 s23 s23p h271 => ?_)
                  try simp only [E_R h271, E_i h271, E_1 h271, E_7 h271, E_14 h271]
                  refine gG_ite ?_ ?_
                  · refine gG_v1 (n_171 h271) (fun v27 s26 s26p h272 => ?_)
                    try simp only [E_R h272, E_i h272, E_1 h272, E_7 h272, E_14 h272]
                    refine gG_ite ?_ ?_
                    · unfold fb_188_145
                      try simp only [E_R h272, E_i h272, E_1 h272, E_7 h272, E_14 h272]
                      refine gG_ite ?_ ?_
                      · refine gG_v0 (n_172 h272) (fun s29 s29p h273 => ?_)
                        try simp only [E_R h273, E_i h273, E_1 h273, E_7 h273, E_14 h273]
                        exact gG_ret ⟨rfl, rfl, rfl, h273⟩
                      · refine gG_chk ?_
                        exact gG_ret ⟨rfl, rfl, rfl, h272⟩
                    · unfold fb_188_145
                      try simp only [E_R h272, E_i h272, E_1 h272, E_7 h272, E_14 h272]
                      refine gG_ite ?_ ?_
                      · refine gG_v0 (n_172 h272) (fun s29 s29p h274 => ?_)
                        try simp only [E_R h274, E_i h274, E_1 h274, E_7 h274, E_14 h274]
                        exact gG_ret ⟨rfl, rfl, rfl, h274⟩
                      · refine gG_chk ?_
                        exact gG_ret ⟨rfl, rfl, rfl, h272⟩
                  · unfold fb_188_145
                    try simp only [E_R h271, E_i h271, E_1 h271, E_7 h271, E_14 h271]
                    refine gG_ite ?_ ?_
                    · refine gG_v0 (n_172 h271) (fun s29 s29p h275 => ?_)
                      try simp only [E_R h275, E_i h275, E_1 h275, E_7 h275, E_14 h275]
                      exact gG_ret ⟨rfl, rfl, rfl, h275⟩
                    · refine gG_chk ?_
                      exact gG_ret ⟨rfl, rfl, rfl, h271⟩
                · unfold fb_188_145
                  try simp only [E_R h270, E_i h270, E_1 h270, E_7 h270, E_14 h270]
                  refine gG_ite ?_ ?_
                  · refine gG_v0 (n_172 h270) (fun s29 s29p h276 => ?_)
                    try simp only [E_R h276, E_i h276, E_1 h276, E_7 h276, E_14 h276]
                    exact gG_ret ⟨rfl, rfl, rfl, h276⟩
                  · refine gG_chk ?_
                    exact gG_ret ⟨rfl, rfl, rfl, h270⟩
              · unfold fb_188_145
                try simp only [E_R h269, E_i h269, E_1 h269, E_7 h269, E_14 h269]
                refine gG_ite ?_ ?_
                · refine gG_v0 (n_172 h269) (fun s29 s29p h277 => ?_)
                  try simp only [E_R h277, E_i h277, E_1 h277, E_7 h277, E_14 h277]
                  exact gG_ret ⟨rfl, rfl, rfl, h277⟩
                · refine gG_chk ?_
                  exact gG_ret ⟨rfl, rfl, rfl, h269⟩
            · unfold fb_188_145
              try simp only [E_R h268, E_i h268, E_1 h268, E_7 h268, E_14 h268]
              refine gG_ite ?_ ?_
              · refine gG_v0 (n_172 h268) (fun s29 s29p h278 => ?_)
                try simp only [E_R h278, E_i h278, E_1 h278, E_7 h278, E_14 h278]
                exact gG_ret ⟨rfl, rfl, rfl, h278⟩
              · refine gG_chk ?_
                exact gG_ret ⟨rfl, rfl, rfl, h268⟩
          · unfold fb_188_145
            try simp only [E_R h267, E_i h267, E_1 h267, E_7 h267, E_14 h267]
            refine gG_ite ?_ ?_
            · refine gG_v0 (n_172 h267) (fun s29 s29p h279 => ?_)
              try simp only [E_R h279, E_i h279, E_1 h279, E_7 h279, E_14 h279]
              exact gG_ret ⟨rfl, rfl, rfl, h279⟩
            · refine gG_chk ?_
              exact gG_ret ⟨rfl, rfl, rfl, h267⟩
        · unfold fb_188_145
          try simp only [E_R h266, E_i h266, E_1 h266, E_7 h266, E_14 h266]
          refine gG_ite ?_ ?_
          · refine gG_v0 (n_172 h266) (fun s29 s29p h280 => ?_)
            try simp only [E_R h280, E_i h280, E_1 h280, E_7 h280, E_14 h280]
            exact gG_ret ⟨rfl, rfl, rfl, h280⟩
          · refine gG_chk ?_
            exact gG_ret ⟨rfl, rfl, rfl, h266⟩
      · refine gG_v1 (n_174 h265) (fun v32 s31 s31p h281 => ?_)
        try simp only [E_R h281, E_i h281, E_1 h281, E_7 h281, E_14 h281]
        exact gG_ret ⟨rfl, rfl, rfl, h281⟩
    · unfold fb_188_52
      try simp only [E_R h263, E_i h263, E_1 h263, E_7 h263, E_14 h263]
      refine gG_v1 (n_171 h263) (fun v9 s8 s8p h282 => ?_)
      try simp only [E_R h282, E_i h282, E_1 h282, E_7 h282, E_14 h282]
      refine gG_ite ?_ ?_
      · refine gG_v1 (n_171 h282) (fun v12 s11 s11p h283 => ?_)
        try simp only [E_R h283, E_i h283, E_1 h283, E_7 h283, E_14 h283]
        refine gG_ite ?_ ?_
        · refine gG_v1 (n_171 h283) (fun v15 s14 s14p h284 => ?_)
          try simp only [E_R h284, E_i h284, E_1 h284, E_7 h284, E_14 h284]
          refine gG_ite ?_ ?_
          · refine gG_v1 (n_171 h284) (fun v18 s17 s17p h285 => ?_)
            try simp only [E_R h285, E_i h285, E_1 h285, E_7 h285, E_14 h285]
            refine gG_ite ?_ ?_
            · refine gG_v1 (n_171 h285) (fun v21 s20 s20p h286 => ?_)
              try simp only [E_R h286, E_i h286, E_1 h286, E_7 h286, E_14 h286]
              refine gG_ite ?_ ?_
              · refine gG_v1 (n_171 h286) (fun v24 s23 s23p h287 => ?_)
                try simp only [E_R h287, E_i h287, E_1 h287, E_7 h287, E_14 h287]
                refine gG_ite ?_ ?_
                · refine gG_v1 (n_171 h287) (fun v27 s26 s26p h288 => ?_)
                  try simp only [E_R h288, E_i h288, E_1 h288, E_7 h288, E_14 h288]
                  refine gG_ite ?_ ?_
                  · unfold fb_188_145
                    try simp only [E_R h288, E_i h288, E_1 h288, E_7 h288, E_14 h288]
                    refine gG_ite ?_ ?_
                    · refine gG_v0 (n_172 h288) (fun s29 s29p h289 => ?_)
                      try simp only [E_R h289, E_i h289, E_1 h289, E_7 h289, E_14 h289]
                      exact gG_ret ⟨rfl, rfl, rfl, h289⟩
                    · refine gG_chk ?_
                      exact gG_ret ⟨rfl, rfl, rfl, h288⟩
                  · unfold fb_188_145
                    try simp only [E_R h288, E_i h288, E_1 h288, E_7 h288, E_14 h288]
                    refine gG_ite ?_ ?_
                    · refine gG_v0 (n_172 h288) (fun s29 s29p h290 => ?_)
                      try simp only [E_R h290, E_i h290, E_1 h290, E_7 h290, E_14 h290]
                      exact gG_ret ⟨rfl, rfl, rfl, h290⟩
                    · refine gG_chk ?_
                      exact gG_ret ⟨rfl, rfl, rfl, h288⟩
                · unfold fb_188_145
                  try simp only [E_R h287, E_i h287, E_1 h287, E_7 h287, E_14 h287]
                  refine gG_ite ?_ ?_
                  · refine gG_v0 (n_172 h287) (fun s29 s29p h291 => ?_)
                    try simp only [E_R h291, E_i h291, E_1 h291, E_7 h291, E_14 h291]
                    exact gG_ret ⟨rfl, rfl, rfl, h291⟩
                  · refine gG_chk ?_
                    exact gG_ret ⟨rfl, rfl, rfl, h287⟩
              · unfold fb_188_145
                try simp only [E_R h286, E_i h286, E_1 h286, E_7 h286, E_14 h286]
                refine gG_ite ?_ ?_
                · refine gG_v0 (n_172 h286) (fun s29 s29p h292 => ?_)
                  try simp only [E_R h292, E_i h292, E_1 h292, E_7 h292, E_14 h292]
                  exact gG_ret ⟨rfl, rfl, rfl, h292⟩
                · refine gG_chk ?_
                  exact gG_ret ⟨rfl, rfl, rfl, h286⟩
            · unfold fb_188_145
              try simp only [E_R h285, E_i h285, E_1 h285, E_7 h285, E_14 h285]
              refine gG_ite ?_ ?_
              · refine gG_v0 (n_172 h285) (fun s29 s29p h293 => ?_)
                try simp only [E_R h293, E_i h293, E_1 h293, E_7 h293, E_14 h293]
                exact gG_ret ⟨rfl, rfl, rfl, h293⟩
              · refine gG_chk ?_
                exact gG_ret ⟨rfl, rfl, rfl, h285⟩
          · unfold fb_188_145
            try simp only [E_R h284, E_i h284, E_1 h284, E_7 h284, E_14 h284]
            refine gG_ite ?_ ?_
            · refine gG_v0 (n_172 h284) (fun s29 s29p h294 => ?_)
              try simp only [E_R h294, E_i h294, E_1 h294, E_7 h294, E_14 h294]
              exact gG_ret ⟨rfl, rfl, rfl, h294⟩
            · refine gG_chk ?_
              exact gG_ret ⟨rfl, rfl, rfl, h284⟩
        · unfold fb_188_145
          try simp only [E_R h283, E_i h283, E_1 h283, E_7 h283, E_14 h283]
          refine gG_ite ?_ ?_
          · refine gG_v0 (n_172 h283) (fun s29 s29p h295 => ?_)
            try simp only [E_R h295, E_i h295, E_1 h295, E_7 h295, E_14 h295]
            exact gG_ret ⟨rfl, rfl, rfl, h295⟩
          · refine gG_chk ?_
            exact gG_ret ⟨rfl, rfl, rfl, h283⟩
      · unfold fb_188_145
        try simp only [E_R h282, E_i h282, E_1 h282, E_7 h282, E_14 h282]
        refine gG_ite ?_ ?_
        · refine gG_v0 (n_172 h282) (fun s29 s29p h296 => ?_)
          try simp only [E_R h296, E_i h296, E_1 h296, E_7 h296, E_14 h296]
          exact gG_ret ⟨rfl, rfl, rfl, h296⟩
        · refine gG_chk ?_
          exact gG_ret ⟨rfl, rfl, rfl, h282⟩
  · exact gG_ret ⟨rfl, rfl, rfl, h⟩

theorem n_189   {s s' : gS}  (h : Eq8 s s') : gG PE (f_189 217 s) (f_189 217 s') := by
  unfold f_189
  try simp only [E_R h, E_i h, E_1 h, E_7 h, E_14 h]
  refine gG_v1 (n_188 h) (fun v2 s1 s1p h297 => ?_)
  try simp only [E_R h297, E_i h297, E_1 h297, E_7 h297, E_14 h297]
  refine gG_loop (fun y y' => y.1 = 217 ∧ y.1 = y'.1 ∧ y.2.1 = y'.2.1 ∧ Eq8 y.2.2 y'.2.2) (fun y y' hy => ?_) ⟨rfl, rfl, rfl, h297⟩
  obtain ⟨x0, x1, u300⟩ := y
  obtain ⟨z298, z299, u300p⟩ := y'
  obtain ⟨e304, e301, e302, h303⟩ := hy
  dsimp only at e304 e301 e302 h303
  subst e301 e302 e304
  show gG _ (sb_189_5 217 x1 u300) (sb_189_5 217 x1 u300p)
  unfold sb_189_5
  dsimp only
  try simp only [E_R h303, E_i h303, E_1 h303, E_7 h303, E_14 h303]
  refine gG_ite ?_ ?_
  · refine gG_v1 (n_170 h303) (fun v4 s3 s3p h305 => ?_)
    try simp only [E_R h305, E_i h305, E_1 h305, E_7 h305, E_14 h305]
    have hs306 : Eq8 (gw s3 217 11 (g32 ((gI s3 217 11) + 1))) (gw s3p 217 11 (g32 ((gI s3 217 11) + 1))) := (E_w h305)
    try simp only [E_R hs306, E_i hs306, E_1 hs306, E_7 hs306, E_14 hs306]
    refine gG_ite ?_ ?_
    · refine gG_map ?_
      exact gG_ret ⟨rfl, rfl, rfl, h305⟩
    · refine gG_v1 (n_188 hs306) (fun v8 s7 s7p h307 => ?_)
      try simp only [E_R h307, E_i h307, E_1 h307, E_7 h307, E_14 h307]
      exact gG_ret ⟨rfl, rfl, rfl, h307⟩
  · refine gG_map ?_
    exact gG_ret ⟨rfl, rfl, rfl, h303⟩

theorem n_190   {s s' : gS}  (h : Eq8 s s') : gG PE (f_190 217 s) (f_190 217 s') := by
  unfold f_190
  try simp only [E_R h, E_i h, E_1 h, E_7 h, E_14 h]
  refine gG_v1 (n_171 h) (fun v2 s1 s1p h308 => ?_)
  try simp only [E_R h308, E_i h308, E_1 h308, E_7 h308, E_14 h308]
  refine gG_ite ?_ ?_
  · refine gG_v1 (n_171 h308) (fun v5 s4 s4p h309 => ?_)
    try simp only [E_R h309, E_i h309, E_1 h309, E_7 h309, E_14 h309]
    refine gG_ite ?_ ?_
    · refine gG_v1 (n_189 h309) (fun v8 s7 s7p h310 => ?_)
      try simp only [E_R h310, E_i h310, E_1 h310, E_7 h310, E_14 h310]
      refine gG_ite ?_ ?_
      · refine gG_v1 (n_170 h310) (fun v10 s9 s9p h311 => ?_)
        try simp only [E_R h311, E_i h311, E_1 h311, E_7 h311, E_14 h311]
        refine gG_ite ?_ ?_
        · refine gG_v1 (n_170 h311) (fun v13 s12 s12p h312 => ?_)
          try simp only [E_R h312, E_i h312, E_1 h312, E_7 h312, E_14 h312]
          refine gG_ite ?_ ?_
          · refine gG_v0 (n_172 h312) (fun s15 s15p h313 => ?_)
            try simp only [E_R h313, E_i h313, E_1 h313, E_7 h313, E_14 h313]
            exact gG_ret ⟨rfl, rfl, rfl, h313⟩
          · unfold fb_190_73
            dsimp only
            try simp only [E_R h312, E_i h312, E_1 h312, E_7 h312, E_14 h312]
            have hs314 : Eq8 (gw s12 217 11 (g32 ((gI s12 217 11) + 1))) (gw s12p 217 11 (g32 ((gI s12 217 11) + 1))) := (E_w h312)
            try simp only [E_R hs314, E_i hs314, E_1 hs314, E_7 hs314, E_14 hs314]
            refine gG_v1 (n_189 hs314) (fun v19 s18 s18p h315 => ?_)
            try simp only [E_R h315, E_i h315, E_1 h315, E_7 h315, E_14 h315]
            refine gG_ite ?_ ?_
            · refine gG_ite ?_ ?_
              · exact gG_ret ⟨rfl, rfl, rfl, h315⟩
              · exact gG_ret ⟨rfl, rfl, rfl, h315⟩
            · refine gG_ite ?_ ?_
              · exact gG_ret ⟨rfl, rfl, rfl, h315⟩
              · exact gG_ret ⟨rfl, rfl, rfl, h315⟩
        · unfold fb_190_73
          dsimp only
          try simp only [E_R h311, E_i h311, E_1 h311, E_7 h311, E_14 h311]
          have hs316 : Eq8 (gw s9 217 11 (g32 ((gI s9 217 11) + 1))) (gw s9p 217 11 (g32 ((gI s9 217 11) + 1))) := (E_w h311)
          try simp only [E_R hs316, E_i hs316, E_1 hs316, E_7 hs316, E_14 hs316]
          refine gG_v1 (n_189 hs316) (fun v19 s18 s18p h317 => ?_)
          try simp only [E_R h317, E_i h317, E_1 h317, E_7 h317, E_14 h317]
          refine gG_ite ?_ ?_
          · refine gG_ite ?_ ?_
            · exact gG_ret ⟨rfl, rfl, rfl, h317⟩
            · exact gG_ret ⟨rfl, rfl, rfl, h317⟩
          · refine gG_ite ?_ ?_
            · exact gG_ret ⟨rfl, rfl, rfl, h317⟩
            · exact gG_ret ⟨rfl, rfl, rfl, h317⟩
      · exact gG_ret ⟨rfl, rfl, rfl, h310⟩
    · refine gG_bool ?_
      exact gG_ret ⟨rfl, rfl, rfl, h309⟩
  · refine gG_bool ?_
    exact gG_ret ⟨rfl, rfl, rfl, h308⟩

theorem n_fo_191 {r_191 : Nat → gS → Option gO} {r_193 : Nat → gS → Option gO}  {s s' : gS} (hr_191 : ∀ {s s' : gS}, Eq8 s s' → gG PE (r_191 217 s) (r_191 217 s')) (hr_193 : ∀ {s s' : gS}, Eq8 s s' → gG PE (r_193 217 s) (r_193 217 s')) (h : Eq8 s s') : gG PE (fo_191 r_191 r_193 217 s) (fo_191 r_191 r_193 217 s') := by
  unfold fo_191
  try simp only [E_R h, E_i h, E_1 h, E_7 h, E_14 h]
  refine gG_ite ?_ ?_
  · refine gG_v1 (n_173 h) (fun v2 s1 s1p h318 => ?_)
    try simp only [E_R h318, E_i h318, E_1 h318, E_7 h318, E_14 h318]
    refine gG_v1 (n_171 h318) (fun v4 s3 s3p h319 => ?_)
    try simp only [E_R h319, E_i h319, E_1 h319, E_7 h319, E_14 h319]
    refine gG_ite ?_ ?_
    · refine gG_v1 (n_170 h319) (fun v7 s6 s6p h320 => ?_)
      try simp only [E_R h320, E_i h320, E_1 h320, E_7 h320, E_14 h320]
      refine gG_ite ?_ ?_
      · refine gG_v1 (n_190 h320) (fun v10 s9 s9p h321 => ?_)
        try simp only [E_R h321, E_i h321, E_1 h321, E_7 h321, E_14 h321]
        exact gG_ret ⟨rfl, rfl, rfl, h321⟩
      · unfold fb_191_40
        dsimp only
        try simp only [E_R h320, E_i h320, E_1 h320, E_7 h320, E_14 h320]
        have hs322 : Eq8 (gw s6 217 13 (g32 ((gI s6 217 13) + 1))) (gw s6p 217 13 (g32 ((gI s6 217 13) + 1))) := (E_w h320)
        try simp only [E_R hs322, E_i hs322, E_1 hs322, E_7 hs322, E_14 hs322]
        have hs323 : Eq8 (gw (gw s6 217 13 (g32 ((gI s6 217 13) + 1))) 217 11 (g32 ((gI (gw s6 217 13 (g32 ((gI s6 217 13) + 1))) 217 11) + 1))) (gw (gw s6p 217 13 (g32 ((gI s6 217 13) + 1))) 217 11 (g32 ((gI (gw s6 217 13 (g32 ((gI s6 217 13) + 1))) 217 11) + 1))) := (E_w hs322)
        try simp only [E_R hs323, E_i hs323, E_1 hs323, E_7 hs323, E_14 hs323]
        refine gG_ite ?_ ?_
        · refine gG_v0 (n_172 h320) (fun s12 s12p h324 => ?_)
          try simp only [E_R h324, E_i h324, E_1 h324, E_7 h324, E_14 h324]
          exact gG_ret ⟨rfl, rfl, rfl, h324⟩
        · refine gG_ite ?_ ?_
          · refine gG_v1 (hr_193 hs323) (fun v17 s16 s16p h325 => ?_)
            try simp only [E_R h325, E_i h325, E_1 h325, E_7 h325, E_14 h325]
            refine gG_ite ?_ ?_
            · refine gG_v1 (n_170 h325) (fun v20 s19 s19p h326 => ?_)
              try simp only [E_R h326, E_i h326, E_1 h326, E_7 h326, E_14 h326]
              refine gG_ite ?_ ?_
              · refine gG_v0 (n_172 h326) (fun s22 s22p h327 => ?_)
                try simp only [E_R h327, E_i h327, E_1 h327, E_7 h327, E_14 h327]
                unfold fb_191_128
                dsimp only
                try simp only [E_R h327, E_i h327, E_1 h327, E_7 h327, E_14 h327]
                have hs328 : Eq8 (gw s22 217 11 (g32 ((gI s22 217 11) + 1))) (gw s22p 217 11 (g32 ((gI s22 217 11) + 1))) := (E_w h327)
                try simp only [E_R hs328, E_i hs328, E_1 hs328, E_7 hs328, E_14 hs328]
                unfold fb_191_138
                dsimp only
                try simp only [E_R h327, E_i h327, E_1 h327, E_7 h327, E_14 h327]
                try simp only [E_R hs328, E_i hs328, E_1 hs328, E_7 hs328, E_14 hs328]
                have hs329 : Eq8 (gw (gw s22 217 11 (g32 ((gI s22 217 11) + 1))) 217 13 (g32 ((gI (gw s22 217 11 (g32 ((gI s22 217 11) + 1))) 217 13) - 1))) (gw (gw s22p 217 11 (g32 ((gI s22 217 11) + 1))) 217 13 (g32 ((gI (gw s22 217 11 (g32 ((gI s22 217 11) + 1))) 217 13) - 1))) := (E_w hs328)
                try simp only [E_R hs329, E_i hs329, E_1 hs329, E_7 hs329, E_14 hs329]
                refine gG_bool ?_
                exact gG_ret ⟨rfl, rfl, rfl, hs329⟩
              · unfold fb_191_128
                dsimp only
                try simp only [E_R h326, E_i h326, E_1 h326, E_7 h326, E_14 h326]
                have hs330 : Eq8 (gw s19 217 11 (g32 ((gI s19 217 11) + 1))) (gw s19p 217 11 (g32 ((gI s19 217 11) + 1))) := (E_w h326)
                try simp only [E_R hs330, E_i hs330, E_1 hs330, E_7 hs330, E_14 hs330]
                unfold fb_191_138
                dsimp only
                try simp only [E_R h326, E_i h326, E_1 h326, E_7 h326, E_14 h326]
                try simp only [E_R hs330, E_i hs330, E_1 hs330, E_7 hs330, E_14 hs330]
                have hs331 : Eq8 (gw (gw s19 217 11 (g32 ((gI s19 217 11) + 1))) 217 13 (g32 ((gI (gw s19 217 11 (g32 ((gI s19 217 11) + 1))) 217 13) - 1))) (gw (gw s19p 217 11 (g32 ((gI s19 217 11) + 1))) 217 13 (g32 ((gI (gw s19 217 11 (g32 ((gI s19 217 11) + 1))) 217 13) - 1))) := (E_w hs330)
                try simp only [E_R hs331, E_i hs331, E_1 hs331, E_7 hs331, E_14 hs331]
                refine gG_bool ?_
                exact gG_ret ⟨rfl, rfl, rfl, hs331⟩
            · unfold fb_191_128
              dsimp only
              try simp only [E_R h325, E_i h325, E_1 h325, E_7 h325, E_14 h325]
              have hs332 : Eq8 (gw s16 217 11 (g32 ((gI s16 217 11) + 1))) (gw s16p 217 11 (g32 ((gI s16 217 11) + 1))) := (E_w h325)
              try simp only [E_R hs332, E_i hs332, E_1 hs332, E_7 hs332, E_14 hs332]
              unfold fb_191_138
              dsimp only
              try simp only [E_R h325, E_i h325, E_1 h325, E_7 h325, E_14 h325]
              try simp only [E_R hs332, E_i hs332, E_1 hs332, E_7 hs332, E_14 hs332]
              have hs333 : Eq8 (gw (gw s16 217 11 (g32 ((gI s16 217 11) + 1))) 217 13 (g32 ((gI (gw s16 217 11 (g32 ((gI s16 217 11) + 1))) 217 13) - 1))) (gw (gw s16p 217 11 (g32 ((gI s16 217 11) + 1))) 217 13 (g32 ((gI (gw s16 217 11 (g32 ((gI s16 217 11) + 1))) 217 13) - 1))) := (E_w hs332)
              try simp only [E_R hs333, E_i hs333, E_1 hs333, E_7 hs333, E_14 hs333]
              refine gG_bool ?_
              exact gG_ret ⟨rfl, rfl, rfl, hs333⟩
          · refine gG_v1 (hr_191 hs322) (fun v27 s26 s26p h334 => ?_)
            try simp only [E_R h334, E_i h334, E_1 h334, E_7 h334, E_14 h334]
            refine gG_ite ?_ ?_
            · unfold fb_191_138
              dsimp only
              try simp only [E_R h334, E_i h334, E_1 h334, E_7 h334, E_14 h334]
              have hs335 : Eq8 (gw s26 217 13 (g32 ((gI s26 217 13) - 1))) (gw s26p 217 13 (g32 ((gI s26 217 13) - 1))) := (E_w h334)
              try simp only [E_R hs335, E_i hs335, E_1 hs335, E_7 hs335, E_14 hs335]
              refine gG_bool ?_
              exact gG_ret ⟨rfl, rfl, rfl, hs335⟩
            · unfold fb_191_138
              dsimp only
              try simp only [E_R h334, E_i h334, E_1 h334, E_7 h334, E_14 h334]
              have hs336 : Eq8 (gw s26 217 13 (g32 ((gI s26 217 13) - 1))) (gw s26p 217 13 (g32 ((gI s26 217 13) - 1))) := (E_w h334)
              try simp only [E_R hs336, E_i hs336, E_1 hs336, E_7 hs336, E_14 hs336]
              refine gG_bool ?_
              exact gG_ret ⟨rfl, rfl, rfl, hs336⟩
    · unfold fb_191_40
      dsimp only
      try simp only [E_R h319, E_i h319, E_1 h319, E_7 h319, E_14 h319]
      have hs337 : Eq8 (gw s3 217 13 (g32 ((gI s3 217 13) + 1))) (gw s3p 217 13 (g32 ((gI s3 217 13) + 1))) := (E_w h319)
      try simp only [E_R hs337, E_i hs337, E_1 hs337, E_7 hs337, E_14 hs337]
      have hs338 : Eq8 (gw (gw s3 217 13 (g32 ((gI s3 217 13) + 1))) 217 11 (g32 ((gI (gw s3 217 13 (g32 ((gI s3 217 13) + 1))) 217 11) + 1))) (gw (gw s3p 217 13 (g32 ((gI s3 217 13) + 1))) 217 11 (g32 ((gI (gw s3 217 13 (g32 ((gI s3 217 13) + 1))) 217 11) + 1))) := (E_w hs337)
      try simp only [E_R hs338, E_i hs338, E_1 hs338, E_7 hs338, E_14 hs338]
      refine gG_ite ?_ ?_
      · refine gG_v0 (n_172 h319) (fun s12 s12p h339 => ?_)
        try simp only [E_R h339, E_i h339, E_1 h339, E_7 h339, E_14 h339]
        exact gG_ret ⟨rfl, rfl, rfl, h339⟩
      · refine gG_ite ?_ ?_
        · refine gG_v1 (hr_193 hs338) (fun v17 s16 s16p h340 => ?_)
          try simp only [E_R h340, E_i h340, E_1 h340, E_7 h340, E_14 h340]
          refine gG_ite ?_ ?_
          · refine gG_v1 (n_170 h340) (fun v20 s19 s19p h341 => ?_)
            try simp only [E_R h341, E_i h341, E_1 h341, E_7 h341, E_14 h341]
            refine gG_ite ?_ ?_
            · refine gG_v0 (n_172 h341) (fun s22 s22p h342 => ?_)
              try simp only [E_R h342, E_i h342, E_1 h342, E_7 h342, E_14 h342]
              unfold fb_191_128
              dsimp only
              try simp only [E_R h342, E_i h342, E_1 h342, E_7 h342, E_14 h342]
              have hs343 : Eq8 (gw s22 217 11 (g32 ((gI s22 217 11) + 1))) (gw s22p 217 11 (g32 ((gI s22 217 11) + 1))) := (E_w h342)
              try simp only [E_R hs343, E_i hs343, E_1 hs343, E_7 hs343, E_14 hs343]
              unfold fb_191_138
              dsimp only
              try simp only [E_R h342, E_i h342, E_1 h342, E_7 h342, E_14 h342]
              try simp only [E_R hs343, E_i hs343, E_1 hs343, E_7 hs343, E_14 hs343]
              have hs344 : Eq8 (gw (gw s22 217 11 (g32 ((gI s22 217 11) + 1))) 217 13 (g32 ((gI (gw s22 217 11 (g32 ((gI s22 217 11) + 1))) 217 13) - 1))) (gw (gw s22p 217 11 (g32 ((gI s22 217 11) + 1))) 217 13 (g32 ((gI (gw s22 217 11 (g32 ((gI s22 217 11) + 1))) 217 13) - 1))) := (E_w hs343)
              try simp only [E_R hs344, E_i hs344, E_1 hs344, E_7 hs344, E_14 hs344]
              refine gG_bool ?_
              exact gG_ret ⟨rfl, rfl, rfl, hs344⟩
            · unfold fb_191_128
              dsimp only
              try simp only [E_R h341, E_i h341, E_1 h341, E_7 h341, E_14 h341]
              have hs345 : Eq8 (gw s19 217 11 (g32 ((gI s19 217 11) + 1))) (gw s19p 217 11 (g32 ((gI s19 217 11) + 1))) := (E_w h341)
              try simp only [E_R hs345, E_i hs345, E_1 hs345, E_7 hs345, E_14 hs345]
              unfold fb_191_138
              dsimp only
              try simp only [E_R h341, E_i h341, E_1 h341, E_7 h341, E_14 h341]
              try simp only [E_R hs345, E_i hs345, E_1 hs345, E_7 hs345, E_14 hs345]
              have hs346 : Eq8 (gw (gw s19 217 11 (g32 ((gI s19 217 11) + 1))) 217 13 (g32 ((gI (gw s19 217 11 (g32 ((gI s19 217 11) + 1))) 217 13) - 1))) (gw (gw s19p 217 11 (g32 ((gI s19 217 11) + 1))) 217 13 (g32 ((gI (gw s19 217 11 (g32 ((gI s19 217 11) + 1))) 217 13) - 1))) := (E_w hs345)
              try simp only [E_R hs346, E_i hs346, E_1 hs346, E_7 hs346, E_14 hs346]
              refine gG_bool ?_
              exact gG_ret ⟨rfl, rfl, rfl, hs346⟩
          · unfold fb_191_128
            dsimp only
            try simp only [E_R h340, E_i h340, E_1 h340, E_7 h340, E_14 h340]
            have hs347 : Eq8 (gw s16 217 11 (g32 ((gI s16 217 11) + 1))) (gw s16p 217 11 (g32 ((gI s16 217 11) + 1))) := (E_w h340)
            try simp only [E_R hs347, E_i hs347, E_1 hs347, E_7 hs347, E_14 hs347]
            unfold fb_191_138
            dsimp only
            try simp only [E_R h340, E_i h340, E_1 h340, E_7 h340, E_14 h340]
            try simp only [E_R hs347, E_i hs347, E_1 hs347, E_7 hs347, E_14 hs347]
            have hs348 : Eq8 (gw (gw s16 217 11 (g32 ((gI s16 217 11) + 1))) 217 13 (g32 ((gI (gw s16 217 11 (g32 ((gI s16 217 11) + 1))) 217 13) - 1))) (gw (gw s16p 217 11 (g32 ((gI s16 217 11) + 1))) 217 13 (g32 ((gI (gw s16 217 11 (g32 ((gI s16 217 11) + 1))) 217 13) - 1))) := (E_w hs347)
            try simp only [E_R hs348, E_i hs348, E_1 hs348, E_7 hs348, E_14 hs348]
            refine gG_bool ?_
            exact gG_ret ⟨rfl, rfl, rfl, hs348⟩
        · refine gG_v1 (hr_191 hs337) (fun v27 s26 s26p h349 => ?_)
          try simp only [E_R h349, E_i h349, E_1 h349, E_7 h349, E_14 h349]
          refine gG_ite ?_ ?_
          · unfold fb_191_138
            dsimp only
            try simp only [E_R h349, E_i h349, E_1 h349, E_7 h349, E_14 h349]
            have hs350 : Eq8 (gw s26 217 13 (g32 ((gI s26 217 13) - 1))) (gw s26p 217 13 (g32 ((gI s26 217 13) - 1))) := (E_w h349)
            try simp only [E_R hs350, E_i hs350, E_1 hs350, E_7 hs350, E_14 hs350]
            refine gG_bool ?_
            exact gG_ret ⟨rfl, rfl, rfl, hs350⟩
          · unfold fb_191_138
            dsimp only
            try simp only [E_R h349, E_i h349, E_1 h349, E_7 h349, E_14 h349]
            have hs351 : Eq8 (gw s26 217 13 (g32 ((gI s26 217 13) - 1))) (gw s26p 217 13 (g32 ((gI s26 217 13) - 1))) := (E_w h349)
            try simp only [E_R hs351, E_i hs351, E_1 hs351, E_7 hs351, E_14 hs351]
            refine gG_bool ?_
            exact gG_ret ⟨rfl, rfl, rfl, hs351⟩
  · exact gG_ret ⟨rfl, rfl, rfl, h⟩

theorem n_fo_192 {r_191 : Nat → gS → Option gO}  {s s' : gS} (hr_191 : ∀ {s s' : gS}, Eq8 s s' → gG PE (r_191 217 s) (r_191 217 s')) (h : Eq8 s s') : gG PE (fo_192 r_191 217 s) (fo_192 r_191 217 s') := by
  unfold fo_192
  try simp only [E_R h, E_i h, E_1 h, E_7 h, E_14 h]
  refine gG_v1 (hr_191 h) (fun v2 s1 s1p h352 => ?_)
  try simp only [E_R h352, E_i h352, E_1 h352, E_7 h352, E_14 h352]
  refine gG_loop (fun y y' => y.1 = 217 ∧ y.1 = y'.1 ∧ y.2.1 = y'.2.1 ∧ Eq8 y.2.2 y'.2.2) (fun y y' hy => ?_) ⟨rfl, rfl, rfl, h352⟩
  obtain ⟨x0, x1, u355⟩ := y
  obtain ⟨z353, z354, u355p⟩ := y'
  obtain ⟨e359, e356, e357, h358⟩ := hy
  dsimp only at e359 e356 e357 h358
  subst e356 e357 e359
  show gG _ (sb_192_5 r_191 217 x1 u355) (sb_192_5 r_191 217 x1 u355p)
  unfold sb_192_5
  try simp only [E_R h358, E_i h358, E_1 h358, E_7 h358, E_14 h358]
  refine gG_ite ?_ ?_
  · refine gG_v1 (n_171 h358) (fun v5 s4 s4p h360 => ?_)
    try simp only [E_R h360, E_i h360, E_1 h360, E_7 h360, E_14 h360]
    refine gG_ite ?_ ?_
    · refine gG_map ?_
      refine gG_bool ?_
      exact gG_ret ⟨rfl, rfl, rfl, h360⟩
    · refine gG_v1 (hr_191 h360) (fun v8 s7 s7p h361 => ?_)
      try simp only [E_R h361, E_i h361, E_1 h361, E_7 h361, E_14 h361]
      refine gG_ite ?_ ?_
      · unfold fb_192_39
        try simp only [E_R h361, E_i h361, E_1 h361, E_7 h361, E_14 h361]
        exact gG_ret ⟨rfl, rfl, rfl, h361⟩
      · refine gG_ite ?_ ?_
        · unfold fb_192_39
          try simp only [E_R h361, E_i h361, E_1 h361, E_7 h361, E_14 h361]
          exact gG_ret ⟨rfl, rfl, rfl, h361⟩
        · exact gG_ret ⟨rfl, rfl, rfl, h361⟩
  · refine gG_map ?_
    refine gG_bool ?_
    exact gG_ret ⟨rfl, rfl, rfl, h358⟩

theorem n_fo_193 {r_192 : Nat → gS → Option gO}  {s s' : gS} (hr_192 : ∀ {s s' : gS}, Eq8 s s' → gG PE (r_192 217 s) (r_192 217 s')) (h : Eq8 s s') : gG PE (fo_193 r_192 217 s) (fo_193 r_192 217 s') := by
  unfold fo_193
  try simp only [E_R h, E_i h, E_1 h, E_7 h, E_14 h]
  refine gG_v1 (hr_192 h) (fun v2 s1 s1p h362 => ?_)
  try simp only [E_R h362, E_i h362, E_1 h362, E_7 h362, E_14 h362]
  refine gG_loop (fun y y' => y.1 = 217 ∧ y.1 = y'.1 ∧ y.2.1 = y'.2.1 ∧ Eq8 y.2.2 y'.2.2) (fun y y' hy => ?_) ⟨rfl, rfl, rfl, h362⟩
  obtain ⟨x0, x1, u365⟩ := y
  obtain ⟨z363, z364, u365p⟩ := y'
  obtain ⟨e369, e366, e367, h368⟩ := hy
  dsimp only at e369 e366 e367 h368
  subst e366 e367 e369
  show gG _ (sb_193_5 r_192 217 x1 u365) (sb_193_5 r_192 217 x1 u365p)
  unfold sb_193_5
  try simp only [E_R h368, E_i h368, E_1 h368, E_7 h368, E_14 h368]
  refine gG_ite ?_ ?_
  · refine gG_v1 (n_171 h368) (fun v5 s4 s4p h370 => ?_)
    try simp only [E_R h370, E_i h370, E_1 h370, E_7 h370, E_14 h370]
    refine gG_ite ?_ ?_
    · refine gG_map ?_
      refine gG_bool ?_
      exact gG_ret ⟨rfl, rfl, rfl, h370⟩
    · refine gG_v1 (hr_192 h370) (fun v8 s7 s7p h371 => ?_)
      try simp only [E_R h371, E_i h371, E_1 h371, E_7 h371, E_14 h371]
      refine gG_ite ?_ ?_
      · refine gG_ite ?_ ?_
        · exact gG_ret ⟨rfl, rfl, rfl, h371⟩
        · exact gG_ret ⟨rfl, rfl, rfl, h371⟩
      · exact gG_ret ⟨rfl, rfl, rfl, h371⟩
  · refine gG_map ?_
    refine gG_bool ?_
    exact gG_ret ⟨rfl, rfl, rfl, h368⟩

theorem n_rgm (n : Nat) : ∀ {s s' : gS}, Eq8 s s' → gG PE (fn_191 n 217 s) (fn_191 n 217 s') ∧ gG PE (fn_192 n 217 s) (fn_192 n 217 s') ∧ gG PE (fn_193 n 217 s) (fn_193 n 217 s') := by
  induction n with
  | zero => intro s s' h; exact ⟨gG_none, gG_none, gG_none⟩
  | succ n ih =>
    intro s s' h
    exact ⟨n_fo_191 (r_191 := fn_191 n) (r_193 := fn_193 n) (fun h => (ih h).1) (fun h => (ih h).2.2) h, n_fo_192 (r_191 := fn_191 n) (fun h => (ih h).1) h, n_fo_193 (r_192 := fn_192 n) (fun h => (ih h).2.1) h⟩
theorem n_193 {s s' : gS} (h : Eq8 s s') : gG PE (f_193 217 s) (f_193 217 s') := (n_rgm 24 h).2.2

theorem n_194   {s s' : gS}  (h : Eq8 s s') : gG PE (f_194 217 s) (f_194 217 s') := by
  unfold f_194
  try simp only [E_R h, E_i h, E_1 h, E_7 h, E_14 h]
  refine gG_v1 (n_171 h) (fun v2 s1 s1p h372 => ?_)
  try simp only [E_R h372, E_i h372, E_1 h372, E_7 h372, E_14 h372]
  refine gG_ite ?_ ?_
  · refine gG_v1 (n_171 h372) (fun v5 s4 s4p h373 => ?_)
    try simp only [E_R h373, E_i h373, E_1 h373, E_7 h373, E_14 h373]
    refine gG_ite ?_ ?_
    · refine gG_v0 (n_172 h373) (fun s7 s7p h374 => ?_)
      try simp only [E_R h374, E_i h374, E_1 h374, E_7 h374, E_14 h374]
      exact gG_ret ⟨rfl, rfl, rfl, h374⟩
    · unfold fb_194_29
      try simp only [E_R h373, E_i h373, E_1 h373, E_7 h373, E_14 h373]
      refine gG_v1 (n_174 h373) (fun v10 s9 s9p h375 => ?_)
      try simp only [E_R h375, E_i h375, E_1 h375, E_7 h375, E_14 h375]
      refine gG_ite ?_ ?_
      · refine gG_v1 (n_171 h375) (fun v12 s11 s11p h376 => ?_)
        try simp only [E_R h376, E_i h376, E_1 h376, E_7 h376, E_14 h376]
        refine gG_ite ?_ ?_
        · unfold fb_194_67
          try simp only [E_R h376, E_i h376, E_1 h376, E_7 h376, E_14 h376]
          refine gG_ite ?_ ?_
          · refine gG_ite ?_ ?_
            · exact gG_ret ⟨rfl, rfl, rfl, h376⟩
            · refine gG_ite ?_ ?_
              · unfold fb_194_95
                dsimp only
                try simp only [E_R h376, E_i h376, E_1 h376, E_7 h376, E_14 h376]
                have hs377 : Eq8 (gw s11 217 17 (g32 ((gI s11 217 17) + (g32 (-v10))))) (gw s11p 217 17 (g32 ((gI s11 217 17) + (g32 (-v10))))) := (E_w h376)
                try simp only [E_R hs377, E_i hs377, E_1 hs377, E_7 hs377, E_14 hs377]
                exact gG_ret ⟨rfl, rfl, rfl, hs377⟩
              · unfold fb_194_95
                dsimp only
                try simp only [E_R h376, E_i h376, E_1 h376, E_7 h376, E_14 h376]
                have hs378 : Eq8 (gw s11 217 17 (g32 ((gI s11 217 17) + v10))) (gw s11p 217 17 (g32 ((gI s11 217 17) + v10))) := (E_w h376)
                try simp only [E_R hs378, E_i hs378, E_1 hs378, E_7 hs378, E_14 hs378]
                exact gG_ret ⟨rfl, rfl, rfl, hs378⟩
          · exact gG_ret ⟨rfl, rfl, rfl, h376⟩
        · refine gG_v1 (n_193 h376) (fun v16 s15 s15p h379 => ?_)
          try simp only [E_R h379, E_i h379, E_1 h379, E_7 h379, E_14 h379]
          refine gG_ite ?_ ?_
          · unfold fb_194_67
            try simp only [E_R h379, E_i h379, E_1 h379, E_7 h379, E_14 h379]
            refine gG_ite ?_ ?_
            · refine gG_ite ?_ ?_
              · exact gG_ret ⟨rfl, rfl, rfl, h379⟩
              · refine gG_ite ?_ ?_
                · unfold fb_194_95
                  dsimp only
                  try simp only [E_R h379, E_i h379, E_1 h379, E_7 h379, E_14 h379]
                  have hs380 : Eq8 (gw s15 217 17 (g32 ((gI s15 217 17) + (g32 (-v10))))) (gw s15p 217 17 (g32 ((gI s15 217 17) + (g32 (-v10))))) := (E_w h379)
                  try simp only [E_R hs380, E_i hs380, E_1 hs380, E_7 hs380, E_14 hs380]
                  exact gG_ret ⟨rfl, rfl, rfl, hs380⟩
                · unfold fb_194_95
                  dsimp only
                  try simp only [E_R h379, E_i h379, E_1 h379, E_7 h379, E_14 h379]
                  have hs381 : Eq8 (gw s15 217 17 (g32 ((gI s15 217 17) + v10))) (gw s15p 217 17 (g32 ((gI s15 217 17) + v10))) := (E_w h379)
                  try simp only [E_R hs381, E_i hs381, E_1 hs381, E_7 hs381, E_14 hs381]
                  exact gG_ret ⟨rfl, rfl, rfl, hs381⟩
            · exact gG_ret ⟨rfl, rfl, rfl, h379⟩
          · unfold fb_194_67
            try simp only [E_R h379, E_i h379, E_1 h379, E_7 h379, E_14 h379]
            refine gG_ite ?_ ?_
            · refine gG_ite ?_ ?_
              · exact gG_ret ⟨rfl, rfl, rfl, h379⟩
              · refine gG_ite ?_ ?_
                · unfold fb_194_95
                  dsimp only
                  try simp only [E_R h379, E_i h379, E_1 h379, E_7 h379, E_14 h379]
                  have hs382 : Eq8 (gw s15 217 17 (g32 ((gI s15 217 17) + (g32 (-v10))))) (gw s15p 217 17 (g32 ((gI s15 217 17) + (g32 (-v10))))) := (E_w h379)
                  try simp only [E_R hs382, E_i hs382, E_1 hs382, E_7 hs382, E_14 hs382]
                  exact gG_ret ⟨rfl, rfl, rfl, hs382⟩
                · unfold fb_194_95
                  dsimp only
                  try simp only [E_R h379, E_i h379, E_1 h379, E_7 h379, E_14 h379]
                  have hs383 : Eq8 (gw s15 217 17 (g32 ((gI s15 217 17) + v10))) (gw s15p 217 17 (g32 ((gI s15 217 17) + v10))) := (E_w h379)
                  try simp only [E_R hs383, E_i hs383, E_1 hs383, E_7 hs383, E_14 hs383]
                  exact gG_ret ⟨rfl, rfl, rfl, hs383⟩
            · exact gG_ret ⟨rfl, rfl, rfl, h379⟩
      · exact gG_ret ⟨rfl, rfl, rfl, h375⟩
  · unfold fb_194_29
    try simp only [E_R h372, E_i h372, E_1 h372, E_7 h372, E_14 h372]
    refine gG_v1 (n_174 h372) (fun v10 s9 s9p h384 => ?_)
    try simp only [E_R h384, E_i h384, E_1 h384, E_7 h384, E_14 h384]
    refine gG_ite ?_ ?_
    · refine gG_v1 (n_171 h384) (fun v12 s11 s11p h385 => ?_)
      try simp only [E_R h385, E_i h385, E_1 h385, E_7 h385, E_14 h385]
      refine gG_ite ?_ ?_
      · unfold fb_194_67
        try simp only [E_R h385, E_i h385, E_1 h385, E_7 h385, E_14 h385]
        refine gG_ite ?_ ?_
        · refine gG_ite ?_ ?_
          · exact gG_ret ⟨rfl, rfl, rfl, h385⟩
          · refine gG_ite ?_ ?_
            · unfold fb_194_95
              dsimp only
              try simp only [E_R h385, E_i h385, E_1 h385, E_7 h385, E_14 h385]
              have hs386 : Eq8 (gw s11 217 17 (g32 ((gI s11 217 17) + (g32 (-v10))))) (gw s11p 217 17 (g32 ((gI s11 217 17) + (g32 (-v10))))) := (E_w h385)
              try simp only [E_R hs386, E_i hs386, E_1 hs386, E_7 hs386, E_14 hs386]
              exact gG_ret ⟨rfl, rfl, rfl, hs386⟩
            · unfold fb_194_95
              dsimp only
              try simp only [E_R h385, E_i h385, E_1 h385, E_7 h385, E_14 h385]
              have hs387 : Eq8 (gw s11 217 17 (g32 ((gI s11 217 17) + v10))) (gw s11p 217 17 (g32 ((gI s11 217 17) + v10))) := (E_w h385)
              try simp only [E_R hs387, E_i hs387, E_1 hs387, E_7 hs387, E_14 hs387]
              exact gG_ret ⟨rfl, rfl, rfl, hs387⟩
        · exact gG_ret ⟨rfl, rfl, rfl, h385⟩
      · refine gG_v1 (n_193 h385) (fun v16 s15 s15p h388 => ?_)
        try simp only [E_R h388, E_i h388, E_1 h388, E_7 h388, E_14 h388]
        refine gG_ite ?_ ?_
        · unfold fb_194_67
          try simp only [E_R h388, E_i h388, E_1 h388, E_7 h388, E_14 h388]
          refine gG_ite ?_ ?_
          · refine gG_ite ?_ ?_
            · exact gG_ret ⟨rfl, rfl, rfl, h388⟩
            · refine gG_ite ?_ ?_
              · unfold fb_194_95
                dsimp only
                try simp only [E_R h388, E_i h388, E_1 h388, E_7 h388, E_14 h388]
                have hs389 : Eq8 (gw s15 217 17 (g32 ((gI s15 217 17) + (g32 (-v10))))) (gw s15p 217 17 (g32 ((gI s15 217 17) + (g32 (-v10))))) := (E_w h388)
                try simp only [E_R hs389, E_i hs389, E_1 hs389, E_7 hs389, E_14 hs389]
                exact gG_ret ⟨rfl, rfl, rfl, hs389⟩
              · unfold fb_194_95
                dsimp only
                try simp only [E_R h388, E_i h388, E_1 h388, E_7 h388, E_14 h388]
                have hs390 : Eq8 (gw s15 217 17 (g32 ((gI s15 217 17) + v10))) (gw s15p 217 17 (g32 ((gI s15 217 17) + v10))) := (E_w h388)
                try simp only [E_R hs390, E_i hs390, E_1 hs390, E_7 hs390, E_14 hs390]
                exact gG_ret ⟨rfl, rfl, rfl, hs390⟩
          · exact gG_ret ⟨rfl, rfl, rfl, h388⟩
        · unfold fb_194_67
          try simp only [E_R h388, E_i h388, E_1 h388, E_7 h388, E_14 h388]
          refine gG_ite ?_ ?_
          · refine gG_ite ?_ ?_
            · exact gG_ret ⟨rfl, rfl, rfl, h388⟩
            · refine gG_ite ?_ ?_
              · unfold fb_194_95
                dsimp only
                try simp only [E_R h388, E_i h388, E_1 h388, E_7 h388, E_14 h388]
                have hs391 : Eq8 (gw s15 217 17 (g32 ((gI s15 217 17) + (g32 (-v10))))) (gw s15p 217 17 (g32 ((gI s15 217 17) + (g32 (-v10))))) := (E_w h388)
                try simp only [E_R hs391, E_i hs391, E_1 hs391, E_7 hs391, E_14 hs391]
                exact gG_ret ⟨rfl, rfl, rfl, hs391⟩
              · unfold fb_194_95
                dsimp only
                try simp only [E_R h388, E_i h388, E_1 h388, E_7 h388, E_14 h388]
                have hs392 : Eq8 (gw s15 217 17 (g32 ((gI s15 217 17) + v10))) (gw s15p 217 17 (g32 ((gI s15 217 17) + v10))) := (E_w h388)
                try simp only [E_R hs392, E_i hs392, E_1 hs392, E_7 hs392, E_14 hs392]
                exact gG_ret ⟨rfl, rfl, rfl, hs392⟩
          · exact gG_ret ⟨rfl, rfl, rfl, h388⟩
    · exact gG_ret ⟨rfl, rfl, rfl, h384⟩

theorem n_184  {a1 : Int} {s s' : gS}  (h : Eq8 s s') : gG PE (f_184 217 a1 s) (f_184 217 a1 s') := by
  unfold f_184
  try simp only [E_R h, E_i h, E_1 h, E_7 h, E_14 h]
  refine gG_v0 (n_169 h) (fun s1 s1p h393 => ?_)
  try simp only [E_R h393, E_i h393, E_1 h393, E_7 h393, E_14 h393]
  refine gG_ite ?_ ?_
  · unfold fb_184_20
    try simp only [E_R h393, E_i h393, E_1 h393, E_7 h393, E_14 h393]
    refine gG_loop (fun y y' => y.1 = 217 ∧ y.1 = y'.1 ∧ y.2.1 = y'.2.1 ∧ y.2.2.1 = y'.2.2.1 ∧ y.2.2.2.1 = y'.2.2.2.1 ∧ Eq8 y.2.2.2.2 y'.2.2.2.2) (fun y y' hy => ?_) ⟨rfl, rfl, rfl, rfl, rfl, h393⟩
    obtain ⟨x0, x1, x2, x3, u398⟩ := y
    obtain ⟨z394, z395, z396, z397, u398p⟩ := y'
    obtain ⟨e404, e399, e400, e401, e402, h403⟩ := hy
    dsimp only at e404 e399 e400 e401 e402 h403
    subst e399 e400 e401 e402 e404
    show gG _ (sb_184_23 217 x1 x2 x3 u398) (sb_184_23 217 x1 x2 x3 u398p)
    unfold sb_184_23
    try simp only [E_R h403, E_i h403, E_1 h403, E_7 h403, E_14 h403]
    refine gG_ite ?_ ?_
    · refine gG_map ?_
      exact gG_ret ⟨rfl, rfl, rfl, h403⟩
    · refine gG_ite ?_ ?_
      · refine gG_v0 (n_169 h403) (fun s3 s3p h405 => ?_)
        try simp only [E_R h405, E_i h405, E_1 h405, E_7 h405, E_14 h405]
        refine gG_ite ?_ ?_
        · unfold fb_184_51
          try simp only [E_R h405, E_i h405, E_1 h405, E_7 h405, E_14 h405]
          refine gG_ite ?_ ?_
          · refine gG_v0 (n_172 h405) (fun s5 s5p h406 => ?_)
            try simp only [E_R h406, E_i h406, E_1 h406, E_7 h406, E_14 h406]
            unfold fb_184_80
            dsimp only
            try simp only [E_R h406, E_i h406, E_1 h406, E_7 h406, E_14 h406]
            refine gG_v0 (n_169 h406) (fun s7 s7p h407 => ?_)
            try simp only [E_R h407, E_i h407, E_1 h407, E_7 h407, E_14 h407]
            refine gG_ite ?_ ?_
            · refine gG_ite ?_ ?_
              · exact gG_ret ⟨rfl, rfl, rfl, rfl, rfl, h407⟩
              · refine gG_v1 (n_170 h407) (fun v10 s9 s9p h408 => ?_)
                try simp only [E_R h408, E_i h408, E_1 h408, E_7 h408, E_14 h408]
                have hs409 : Eq8 (gw s9 217 11 (g32 ((gI s9 217 11) + 1))) (gw s9p 217 11 (g32 ((gI s9 217 11) + 1))) := (E_w h408)
                try simp only [E_R hs409, E_i hs409, E_1 hs409, E_7 hs409, E_14 hs409]
                refine gG_ite ?_ ?_
                · refine gG_v0 (n_172 h408) (fun s12 s12p h410 => ?_)
                  try simp only [E_R h410, E_i h410, E_1 h410, E_7 h410, E_14 h410]
                  exact gG_ret ⟨rfl, rfl, rfl, rfl, rfl, h410⟩
                · exact gG_ret ⟨rfl, rfl, rfl, rfl, rfl, hs409⟩
            · exact gG_ret ⟨rfl, rfl, rfl, rfl, rfl, h407⟩
          · refine gG_ite ?_ ?_
            · refine gG_v0 (n_182 h405) (fun s15 s15p h411 => ?_)
              try simp only [E_R h411, E_i h411, E_1 h411, E_7 h411, E_14 h411]
              unfold fb_184_80
              dsimp only
              try simp only [E_R h411, E_i h411, E_1 h411, E_7 h411, E_14 h411]
              refine gG_v0 (n_169 h411) (fun s7 s7p h412 => ?_)
              try simp only [E_R h412, E_i h412, E_1 h412, E_7 h412, E_14 h412]
              refine gG_ite ?_ ?_
              · refine gG_ite ?_ ?_
                · exact gG_ret ⟨rfl, rfl, rfl, rfl, rfl, h412⟩
                · refine gG_v1 (n_170 h412) (fun v10 s9 s9p h413 => ?_)
                  try simp only [E_R h413, E_i h413, E_1 h413, E_7 h413, E_14 h413]
                  have hs414 : Eq8 (gw s9 217 11 (g32 ((gI s9 217 11) + 1))) (gw s9p 217 11 (g32 ((gI s9 217 11) + 1))) := (E_w h413)
                  try simp only [E_R hs414, E_i hs414, E_1 hs414, E_7 hs414, E_14 hs414]
                  refine gG_ite ?_ ?_
                  · refine gG_v0 (n_172 h413) (fun s12 s12p h415 => ?_)
                    try simp only [E_R h415, E_i h415, E_1 h415, E_7 h415, E_14 h415]
                    exact gG_ret ⟨rfl, rfl, rfl, rfl, rfl, h415⟩
                  · exact gG_ret ⟨rfl, rfl, rfl, rfl, rfl, hs414⟩
              · exact gG_ret ⟨rfl, rfl, rfl, rfl, rfl, h412⟩
            · refine gG_v0 (n_194 h405) (fun s17 s17p h416 => ?_)
              try simp only [E_R h416, E_i h416, E_1 h416, E_7 h416, E_14 h416]
              unfold fb_184_80
              dsimp only
              try simp only [E_R h416, E_i h416, E_1 h416, E_7 h416, E_14 h416]
              refine gG_v0 (n_169 h416) (fun s7 s7p h417 => ?_)
              try simp only [E_R h417, E_i h417, E_1 h417, E_7 h417, E_14 h417]
              refine gG_ite ?_ ?_
              · refine gG_ite ?_ ?_
                · exact gG_ret ⟨rfl, rfl, rfl, rfl, rfl, h417⟩
                · refine gG_v1 (n_170 h417) (fun v10 s9 s9p h418 => ?_)
                  try simp only [E_R h418, E_i h418, E_1 h418, E_7 h418, E_14 h418]
                  have hs419 : Eq8 (gw s9 217 11 (g32 ((gI s9 217 11) + 1))) (gw s9p 217 11 (g32 ((gI s9 217 11) + 1))) := (E_w h418)
                  try simp only [E_R hs419, E_i hs419, E_1 hs419, E_7 hs419, E_14 hs419]
                  refine gG_ite ?_ ?_
                  · refine gG_v0 (n_172 h418) (fun s12 s12p h420 => ?_)
                    try simp only [E_R h420, E_i h420, E_1 h420, E_7 h420, E_14 h420]
                    exact gG_ret ⟨rfl, rfl, rfl, rfl, rfl, h420⟩
                  · exact gG_ret ⟨rfl, rfl, rfl, rfl, rfl, hs419⟩
              · exact gG_ret ⟨rfl, rfl, rfl, rfl, rfl, h417⟩
        · unfold fb_184_51
          try simp only [E_R h405, E_i h405, E_1 h405, E_7 h405, E_14 h405]
          refine gG_ite ?_ ?_
          · refine gG_v0 (n_172 h405) (fun s5 s5p h421 => ?_)
            try simp only [E_R h421, E_i h421, E_1 h421, E_7 h421, E_14 h421]
            unfold fb_184_80
            dsimp only
            try simp only [E_R h421, E_i h421, E_1 h421, E_7 h421, E_14 h421]
            refine gG_v0 (n_169 h421) (fun s7 s7p h422 => ?_)
            try simp only [E_R h422, E_i h422, E_1 h422, E_7 h422, E_14 h422]
            refine gG_ite ?_ ?_
            · refine gG_ite ?_ ?_
              · exact gG_ret ⟨rfl, rfl, rfl, rfl, rfl, h422⟩
              · refine gG_v1 (n_170 h422) (fun v10 s9 s9p h423 => ?_)
                try simp only [E_R h423, E_i h423, E_1 h423, E_7 h423, E_14 h423]
                have hs424 : Eq8 (gw s9 217 11 (g32 ((gI s9 217 11) + 1))) (gw s9p 217 11 (g32 ((gI s9 217 11) + 1))) := (E_w h423)
                try simp only [E_R hs424, E_i hs424, E_1 hs424, E_7 hs424, E_14 hs424]
                refine gG_ite ?_ ?_
                · refine gG_v0 (n_172 h423) (fun s12 s12p h425 => ?_)
                  try simp only [E_R h425, E_i h425, E_1 h425, E_7 h425, E_14 h425]
                  exact gG_ret ⟨rfl, rfl, rfl, rfl, rfl, h425⟩
                · exact gG_ret ⟨rfl, rfl, rfl, rfl, rfl, hs424⟩
            · exact gG_ret ⟨rfl, rfl, rfl, rfl, rfl, h422⟩
          · refine gG_ite ?_ ?_
            · refine gG_v0 (n_182 h405) (fun s15 s15p h426 => ?_)
              try simp only [E_R h426, E_i h426, E_1 h426, E_7 h426, E_14 h426]
              unfold fb_184_80
              dsimp only
              try simp only [E_R h426, E_i h426, E_1 h426, E_7 h426, E_14 h426]
              refine gG_v0 (n_169 h426) (fun s7 s7p h427 => ?_)
              try simp only [E_R h427, E_i h427, E_1 h427, E_7 h427, E_14 h427]
              refine gG_ite ?_ ?_
              · refine gG_ite ?_ ?_
                · exact gG_ret ⟨rfl, rfl, rfl, rfl, rfl, h427⟩
                · refine gG_v1 (n_170 h427) (fun v10 s9 s9p h428 => ?_)
                  try simp only [E_R h428, E_i h428, E_1 h428, E_7 h428, E_14 h428]
                  have hs429 : Eq8 (gw s9 217 11 (g32 ((gI s9 217 11) + 1))) (gw s9p 217 11 (g32 ((gI s9 217 11) + 1))) := (E_w h428)
                  try simp only [E_R hs429, E_i hs429, E_1 hs429, E_7 hs429, E_14 hs429]
                  refine gG_ite ?_ ?_
                  · refine gG_v0 (n_172 h428) (fun s12 s12p h430 => ?_)
                    try simp only [E_R h430, E_i h430, E_1 h430, E_7 h430, E_14 h430]
                    exact gG_ret ⟨rfl, rfl, rfl, rfl, rfl, h430⟩
                  · exact gG_ret ⟨rfl, rfl, rfl, rfl, rfl, hs429⟩
              · exact gG_ret ⟨rfl, rfl, rfl, rfl, rfl, h427⟩
            · refine gG_v0 (n_194 h405) (fun s17 s17p h431 => ?_)
              try simp only [E_R h431, E_i h431, E_1 h431, E_7 h431, E_14 h431]
              unfold fb_184_80
              dsimp only
              try simp only [E_R h431, E_i h431, E_1 h431, E_7 h431, E_14 h431]
              refine gG_v0 (n_169 h431) (fun s7 s7p h432 => ?_)
              try simp only [E_R h432, E_i h432, E_1 h432, E_7 h432, E_14 h432]
              refine gG_ite ?_ ?_
              · refine gG_ite ?_ ?_
                · exact gG_ret ⟨rfl, rfl, rfl, rfl, rfl, h432⟩
                · refine gG_v1 (n_170 h432) (fun v10 s9 s9p h433 => ?_)
                  try simp only [E_R h433, E_i h433, E_1 h433, E_7 h433, E_14 h433]
                  have hs434 : Eq8 (gw s9 217 11 (g32 ((gI s9 217 11) + 1))) (gw s9p 217 11 (g32 ((gI s9 217 11) + 1))) := (E_w h433)
                  try simp only [E_R hs434, E_i hs434, E_1 hs434, E_7 hs434, E_14 hs434]
                  refine gG_ite ?_ ?_
                  · refine gG_v0 (n_172 h433) (fun s12 s12p h435 => ?_)
                    try simp only [E_R h435, E_i h435, E_1 h435, E_7 h435, E_14 h435]
                    exact gG_ret ⟨rfl, rfl, rfl, rfl, rfl, h435⟩
                  · exact gG_ret ⟨rfl, rfl, rfl, rfl, rfl, hs434⟩
              · exact gG_ret ⟨rfl, rfl, rfl, rfl, rfl, h432⟩
      · refine gG_map ?_
        exact gG_ret ⟨rfl, rfl, rfl, h403⟩
  · unfold fb_184_20
    try simp only [E_R h393, E_i h393, E_1 h393, E_7 h393, E_14 h393]
    refine gG_loop (fun y y' => y.1 = 217 ∧ y.1 = y'.1 ∧ y.2.1 = y'.2.1 ∧ y.2.2.1 = y'.2.2.1 ∧ y.2.2.2.1 = y'.2.2.2.1 ∧ Eq8 y.2.2.2.2 y'.2.2.2.2) (fun y y' hy => ?_) ⟨rfl, rfl, rfl, rfl, rfl, h393⟩
    obtain ⟨x0, x1, x2, x3, u440⟩ := y
    obtain ⟨z436, z437, z438, z439, u440p⟩ := y'
    obtain ⟨e446, e441, e442, e443, e444, h445⟩ := hy
    dsimp only at e446 e441 e442 e443 e444 h445
    subst e441 e442 e443 e444 e446
    show gG _ (sb_184_23 217 x1 x2 x3 u440) (sb_184_23 217 x1 x2 x3 u440p)
    unfold sb_184_23
    try simp only [E_R h445, E_i h445, E_1 h445, E_7 h445, E_14 h445]
    refine gG_ite ?_ ?_
    · refine gG_map ?_
      exact gG_ret ⟨rfl, rfl, rfl, h445⟩
    · refine gG_ite ?_ ?_
      · refine gG_v0 (n_169 h445) (fun s3 s3p h447 => ?_)
        try simp only [E_R h447, E_i h447, E_1 h447, E_7 h447, E_14 h447]
        refine gG_ite ?_ ?_
        · unfold fb_184_51
          try simp only [E_R h447, E_i h447, E_1 h447, E_7 h447, E_14 h447]
          refine gG_ite ?_ ?_
          · refine gG_v0 (n_172 h447) (fun s5 s5p h448 => ?_)
            try simp only [E_R h448, E_i h448, E_1 h448, E_7 h448, E_14 h448]
            unfold fb_184_80
            dsimp only
            try simp only [E_R h448, E_i h448, E_1 h448, E_7 h448, E_14 h448]
            refine gG_v0 (n_169 h448) (fun s7 s7p h449 => ?_)
            try simp only [E_R h449, E_i h449, E_1 h449, E_7 h449, E_14 h449]
            refine gG_ite ?_ ?_
            · refine gG_ite ?_ ?_
              · exact gG_ret ⟨rfl, rfl, rfl, rfl, rfl, h449⟩
              · refine gG_v1 (n_170 h449) (fun v10 s9 s9p h450 => ?_)
                try simp only [E_R h450, E_i h450, E_1 h450, E_7 h450, E_14 h450]
                have hs451 : Eq8 (gw s9 217 11 (g32 ((gI s9 217 11) + 1))) (gw s9p 217 11 (g32 ((gI s9 217 11) + 1))) := (E_w h450)
                try simp only [E_R hs451, E_i hs451, E_1 hs451, E_7 hs451, E_14 hs451]
                refine gG_ite ?_ ?_
                · refine gG_v0 (n_172 h450) (fun s12 s12p h452 => ?_)
                  try simp only [E_R h452, E_i h452, E_1 h452, E_7 h452, E_14 h452]
                  exact gG_ret ⟨rfl, rfl, rfl, rfl, rfl, h452⟩
                · exact gG_ret ⟨rfl, rfl, rfl, rfl, rfl, hs451⟩
            · exact gG_ret ⟨rfl, rfl, rfl, rfl, rfl, h449⟩
          · refine gG_ite ?_ ?_
            · refine gG_v0 (n_182 h447) (fun s15 s15p h453 => ?_)
              try simp only [E_R h453, E_i h453, E_1 h453, E_7 h453, E_14 h453]
              unfold fb_184_80
              dsimp only
              try simp only [E_R h453, E_i h453, E_1 h453, E_7 h453, E_14 h453]
              refine gG_v0 (n_169 h453) (fun s7 s7p h454 => ?_)
              try simp only [E_R h454, E_i h454, E_1 h454, E_7 h454, E_14 h454]
              refine gG_ite ?_ ?_
              · refine gG_ite ?_ ?_
                · exact gG_ret ⟨rfl, rfl, rfl, rfl, rfl, h454⟩
                · refine gG_v1 (n_170 h454) (fun v10 s9 s9p h455 => ?_)
                  try simp only [E_R h455, E_i h455, E_1 h455, E_7 h455, E_14 h455]
                  have hs456 : Eq8 (gw s9 217 11 (g32 ((gI s9 217 11) + 1))) (gw s9p 217 11 (g32 ((gI s9 217 11) + 1))) := (E_w h455)
                  try simp only [E_R hs456, E_i hs456, E_1 hs456, E_7 hs456, E_14 hs456]
                  refine gG_ite ?_ ?_
                  · refine gG_v0 (n_172 h455) (fun s12 s12p h457 => ?_)
                    try simp only [E_R h457, E_i h457, E_1 h457, E_7 h457, E_14 h457]
                    exact gG_ret ⟨rfl, rfl, rfl, rfl, rfl, h457⟩
                  · exact gG_ret ⟨rfl, rfl, rfl, rfl, rfl, hs456⟩
              · exact gG_ret ⟨rfl, rfl, rfl, rfl, rfl, h454⟩
            · refine gG_v0 (n_194 h447) (fun s17 s17p h458 => ?_)
              try simp only [E_R h458, E_i h458, E_1 h458, E_7 h458, E_14 h458]
              unfold fb_184_80
              dsimp only
              try simp only [E_R h458, E_i h458, E_1 h458, E_7 h458, E_14 h458]
              refine gG_v0 (n_169 h458) (fun s7 s7p h459 => ?_)
              try simp only [E_R h459, E_i h459, E_1 h459, E_7 h459, E_14 h459]
              refine gG_ite ?_ ?_
              · refine gG_ite ?_ ?_
                · exact gG_ret ⟨rfl, rfl, rfl, rfl, rfl, h459⟩
                · refine gG_v1 (n_170 h459) (fun v10 s9 s9p h460 => ?_)
                  try simp only [E_R h460, E_i h460, E_1 h460, E_7 h460, E_14 h460]
                  have hs461 : Eq8 (gw s9 217 11 (g32 ((gI s9 217 11) + 1))) (gw s9p 217 11 (g32 ((gI s9 217 11) + 1))) := (E_w h460)
                  try simp only [E_R hs461, E_i hs461, E_1 hs461, E_7 hs461, E_14 hs461]
                  refine gG_ite ?_ ?_
                  · refine gG_v0 (n_172 h460) (fun s12 s12p h462 => ?_)
                    try simp only [E_R h462, E_i h462, E_1 h462, E_7 h462, E_14 h462]
                    exact gG_ret ⟨rfl, rfl, rfl, rfl, rfl, h462⟩
                  · exact gG_ret ⟨rfl, rfl, rfl, rfl, rfl, hs461⟩
              · exact gG_ret ⟨rfl, rfl, rfl, rfl, rfl, h459⟩
        · unfold fb_184_51
          try simp only [E_R h447, E_i h447, E_1 h447, E_7 h447, E_14 h447]
          refine gG_ite ?_ ?_
          · refine gG_v0 (n_172 h447) (fun s5 s5p h463 => ?_)
            try simp only [E_R h463, E_i h463, E_1 h463, E_7 h463, E_14 h463]
            unfold fb_184_80
            dsimp only
            try simp only [E_R h463, E_i h463, E_1 h463, E_7 h463, E_14 h463]
            refine gG_v0 (n_169 h463) (fun s7 s7p h464 => ?_)
            try simp only [E_R h464, E_i h464, E_1 h464, E_7 h464, E_14 h464]
            refine gG_ite ?_ ?_
            · refine gG_ite ?_ ?_
              · exact gG_ret ⟨rfl, rfl, rfl, rfl, rfl, h464⟩
              · refine gG_v1 (n_170 h464) (fun v10 s9 s9p h465 => ?_)
                try simp only [E_R h465, E_i h465, E_1 h465, E_7 h465, E_14 h465]
                have hs466 : Eq8 (gw s9 217 11 (g32 ((gI s9 217 11) + 1))) (gw s9p 217 11 (g32 ((gI s9 217 11) + 1))) := (E_w h465)
                try simp only [E_R hs466, E_i hs466, E_1 hs466, E_7 hs466, E_14 hs466]
                refine gG_ite ?_ ?_
                · refine gG_v0 (n_172 h465) (fun s12 s12p h467 => ?_)
                  try simp only [E_R h467, E_i h467, E_1 h467, E_7 h467, E_14 h467]
                  exact gG_ret ⟨rfl, rfl, rfl, rfl, rfl, h467⟩
                · exact gG_ret ⟨rfl, rfl, rfl, rfl, rfl, hs466⟩
            · exact gG_ret ⟨rfl, rfl, rfl, rfl, rfl, h464⟩
          · refine gG_ite ?_ ?_
            · refine gG_v0 (n_182 h447) (fun s15 s15p h468 => ?_)
              try simp only [E_R h468, E_i h468, E_1 h468, E_7 h468, E_14 h468]
              unfold fb_184_80
              dsimp only
              try simp only [E_R h468, E_i h468, E_1 h468, E_7 h468, E_14 h468]
              refine gG_v0 (n_169 h468) (fun s7 s7p h469 => ?_)
              try simp only [E_R h469, E_i h469, E_1 h469, E_7 h469, E_14 h469]
              refine gG_ite ?_ ?_
              · refine gG_ite ?_ ?_
                · exact gG_ret ⟨rfl, rfl, rfl, rfl, rfl, h469⟩
                · refine gG_v1 (n_170 h469) (fun v10 s9 s9p h470 => ?_)
                  try simp only [E_R h470, E_i h470, E_1 h470, E_7 h470, E_14 h470]
                  have hs471 : Eq8 (gw s9 217 11 (g32 ((gI s9 217 11) + 1))) (gw s9p 217 11 (g32 ((gI s9 217 11) + 1))) := (E_w h470)
                  try simp only [E_R hs471, E_i hs471, E_1 hs471, E_7 hs471, E_14 hs471]
                  refine gG_ite ?_ ?_
                  · refine gG_v0 (n_172 h470) (fun s12 s12p h472 => ?_)
                    try simp only [E_R h472, E_i h472, E_1 h472, E_7 h472, E_14 h472]
                    exact gG_ret ⟨rfl, rfl, rfl, rfl, rfl, h472⟩
                  · exact gG_ret ⟨rfl, rfl, rfl, rfl, rfl, hs471⟩
              · exact gG_ret ⟨rfl, rfl, rfl, rfl, rfl, h469⟩
            · refine gG_v0 (n_194 h447) (fun s17 s17p h473 => ?_)
              try simp only [E_R h473, E_i h473, E_1 h473, E_7 h473, E_14 h473]
              unfold fb_184_80
              dsimp only
              try simp only [E_R h473, E_i h473, E_1 h473, E_7 h473, E_14 h473]
              refine gG_v0 (n_169 h473) (fun s7 s7p h474 => ?_)
              try simp only [E_R h474, E_i h474, E_1 h474, E_7 h474, E_14 h474]
              refine gG_ite ?_ ?_
              · refine gG_ite ?_ ?_
                · exact gG_ret ⟨rfl, rfl, rfl, rfl, rfl, h474⟩
                · refine gG_v1 (n_170 h474) (fun v10 s9 s9p h475 => ?_)
                  try simp only [E_R h475, E_i h475, E_1 h475, E_7 h475, E_14 h475]
                  have hs476 : Eq8 (gw s9 217 11 (g32 ((gI s9 217 11) + 1))) (gw s9p 217 11 (g32 ((gI s9 217 11) + 1))) := (E_w h475)
                  try simp only [E_R hs476, E_i hs476, E_1 hs476, E_7 hs476, E_14 hs476]
                  refine gG_ite ?_ ?_
                  · refine gG_v0 (n_172 h475) (fun s12 s12p h477 => ?_)
                    try simp only [E_R h477, E_i h477, E_1 h477, E_7 h477, E_14 h477]
                    exact gG_ret ⟨rfl, rfl, rfl, rfl, rfl, h477⟩
                  · exact gG_ret ⟨rfl, rfl, rfl, rfl, rfl, hs476⟩
              · exact gG_ret ⟨rfl, rfl, rfl, rfl, rfl, h474⟩
      · refine gG_map ?_
        exact gG_ret ⟨rfl, rfl, rfl, h445⟩

end
section
/-- cells that the reading of a law and the memo use -/
noncomputable def scb (a k : Nat) : Bool := ((Nat.beq a 223 && Nat.blt k 7) || (Nat.beq a 217 && (Nat.beq k 9 || Nat.beq k 10 || Nat.beq k 11 || Nat.beq k 12 || Nat.beq k 13 || Nat.beq k 15 || Nat.beq k 16 || Nat.beq k 17)))
noncomputable def Eg (g s : gS) : Prop := Sm g s ∧ (gR g 217 1 = 218 ∧ gR g 217 7 = 222 ∧ gR g 217 14 = 223 ∧ gR g 217 22 = 228) ∧ ∀ a k, scb a k = false → gI s a k = gI g a k
section Fq
variable {g s s' : gS} {Q : Type} {P : Q → Prop}
theorem Eg_w {a k : Nat} {v : Int} (h : Eg g s) (hc : scb a k = true) : Eg g (gw s a k v) := by
  refine ⟨h.1, h.2.1, fun b j hb => ?_⟩
  show (if b = a ∧ j = k then v else gI s b j) = _
  rw [if_neg (fun e => by rw [e.1, e.2, hc] at hb; cases hb)]
  exact h.2.2 b j hb
theorem gQ_loop {σ : Type} {step : σ → Option (σ ⊕ Q)} (I : σ → Prop) (h : ∀ y, I y → gQ (step y) (Sum.elim I P)) {y : σ} (h0 : I y) : gQ (gloop step y) P := by
  intro r e
  obtain ⟨n, hn⟩ := gloop_out e
  clear e
  induction n generalizing y with
  | zero => cases hn
  | succ n ih =>
    have hn : (step y).bind (Sum.elim (giter step n) some) = some r := hn
    have hs := h y h0
    cases e1 : step y with
    | none => rw [e1] at hn; cases hn
    | some q =>
      have hq := hs q e1
      rw [e1] at hn
      cases q with
      | inl z => exact ih hq hn
      | inr z => cases hn; exact hq
theorem o_266 {a : Nat} (h : Eg g s) : gQ (f_266 a s) (fun r => Eg g r.2.2.2) := gQ_ret h
theorem o_267 {a : Nat} {j : Int} (h : Eg g s) : gQ (f_267 a j s) (fun r => Eg g r.2.2.2) := gQ_chk (gQ_ret h)
end Fq

theorem o_150  {a0 : Int} {a1 : Int} {a2 : Int} {g s : gS}  (h : Eg g s) : gQ (f_150 a0 a1 a2 s) (fun r => Eg g r.2.2.2) := by
  unfold f_150
  refine gQ_ite ?_ ?_
  · unfold fb_150_14
    exact gQ_ret h
  · refine gQ_ite ?_ ?_
    · unfold fb_150_14
      exact gQ_ret h
    · exact gQ_ret h

theorem o_168  {a1 : Int} {g s : gS}  (h : Eg g s) : gQ (f_168 217 a1 s) (fun r => Eg g r.2.2.2) := by
  unfold f_168
  refine gQ_ite ?_ ?_
  · refine gQ_chk ?_
    exact gQ_ret h
  · refine gQ_chk ?_
    exact gQ_ret h

theorem o_169   {g s : gS}  (h : Eg g s) : gQ (f_169 217 s) (fun r => Eg g r.2.2.2) := by
  unfold f_169
  refine gQ_loop (fun y => y.1 = 217 ∧ Eg g y.2) (fun y hy => ?_) ⟨rfl, h⟩
  obtain ⟨x0, u1⟩ := y
  obtain ⟨e3, h2⟩ := hy
  dsimp only at e3 h2
  subst e3
  show gQ (sb_169_0 217 u1) _
  unfold sb_169_0
  dsimp only
  refine gQ_ite ?_ ?_
  · refine gQ_v1 (A := Eg g) (o_168 h2) (fun v2 s1 h4 => ?_)
    refine gQ_ite ?_ ?_
    · exact gQ_ret ⟨rfl, (Eg_w h4 rfl)⟩
    · refine gQ_map ?_
      exact gQ_ret h4
  · refine gQ_map ?_
    exact gQ_ret h2

theorem o_170  {a1 : Int} {g s : gS}  (h : Eg g s) : gQ (f_170 217 a1 s) (fun r => Eg g r.2.2.2) := by
  unfold f_170
  refine gQ_v0 (A := Eg g) (o_169 h) (fun s1 h5 => ?_)
  refine gQ_ite ?_ ?_
  · refine gQ_v1 (A := Eg g) (o_168 h5) (fun v4 s3 h6 => ?_)
    refine gQ_ite ?_ ?_
    · exact gQ_ret h6
    · unfold fb_170_31
      exact gQ_ret h6
  · unfold fb_170_31
    exact gQ_ret h5

theorem o_171  {a1 : Nat} {g s : gS}  (h : Eg g s) : gQ (f_171 217 a1 s) (fun r => Eg g r.2.2.2) := by
  unfold f_171
  refine gQ_v0 (A := Eg g) (o_169 h) (fun s1 h7 => ?_)
  refine gQ_loop (fun y => y.1 = 217 ∧ Eg g y.2.2.2) (fun y hy => ?_) ⟨rfl, h7⟩
  obtain ⟨x0, x1, x2, u8⟩ := y
  obtain ⟨e10, h9⟩ := hy
  dsimp only at e10 h9
  subst e10
  show gQ (sb_171_9 217 x1 x2 u8) _
  unfold sb_171_9
  refine gQ_ite ?_ ?_
  · refine gQ_v1 (A := Eg g) (o_168 h9) (fun v4 s3 h11 => ?_)
    refine gQ_v1 (A := Eg g) (o_150 h11) (fun v6 s5 h12 => ?_)
    refine gQ_ite ?_ ?_
    · refine gQ_map ?_
      unfold fb_171_38
      refine gQ_v1 (A := Eg g) (o_266 h12) (fun v9 s8 h13 => ?_)
      refine gQ_ite ?_ ?_
      · refine gQ_loop (fun y => y.1 = 217 ∧ Eg g y.2.2.2.2) (fun y hy => ?_) ⟨rfl, h13⟩
        obtain ⟨x0, x1, x2, x3, u14⟩ := y
        obtain ⟨e16, h15⟩ := hy
        dsimp only at e16 h15
        subst e16
        show gQ (sb_171_55 217 x1 x2 x3 u14) _
        unfold sb_171_55
        dsimp only
        refine gQ_v1 (A := Eg g) (o_266 h15) (fun v11 s10 h17 => ?_)
        refine gQ_ite ?_ ?_
        · refine gQ_v1 (A := Eg g) (o_168 h17) (fun v13 s12 h18 => ?_)
          refine gQ_v1 (A := Eg g) (o_267 h18) (fun v15 s14 h19 => ?_)
          refine gQ_ite ?_ ?_
          · exact gQ_ret ⟨rfl, h19⟩
          · refine gQ_map ?_
            exact gQ_ret h19
        · refine gQ_map ?_
          exact gQ_ret (Eg_w h17 rfl)
      · exact gQ_ret h13
    · exact gQ_ret ⟨rfl, h12⟩
  · refine gQ_map ?_
    unfold fb_171_38
    refine gQ_v1 (A := Eg g) (o_266 h9) (fun v9 s8 h20 => ?_)
    refine gQ_ite ?_ ?_
    · refine gQ_loop (fun y => y.1 = 217 ∧ Eg g y.2.2.2.2) (fun y hy => ?_) ⟨rfl, h20⟩
      obtain ⟨x0, x1, x2, x3, u21⟩ := y
      obtain ⟨e23, h22⟩ := hy
      dsimp only at e23 h22
      subst e23
      show gQ (sb_171_55 217 x1 x2 x3 u21) _
      unfold sb_171_55
      dsimp only
      refine gQ_v1 (A := Eg g) (o_266 h22) (fun v11 s10 h24 => ?_)
      refine gQ_ite ?_ ?_
      · refine gQ_v1 (A := Eg g) (o_168 h24) (fun v13 s12 h25 => ?_)
        refine gQ_v1 (A := Eg g) (o_267 h25) (fun v15 s14 h26 => ?_)
        refine gQ_ite ?_ ?_
        · exact gQ_ret ⟨rfl, h26⟩
        · refine gQ_map ?_
          exact gQ_ret h26
      · refine gQ_map ?_
        exact gQ_ret (Eg_w h24 rfl)
    · exact gQ_ret h20

theorem o_172  {a1 : Int} {g s : gS}  (h : Eg g s) : gQ (f_172 217 a1 s) (fun r => Eg g r.2.2.2) := by
  unfold f_172
  dsimp only
  refine gQ_ite ?_ ?_
  · exact gQ_ret (Eg_w h rfl)
  · exact gQ_ret h

theorem o_173   {g s : gS}  (h : Eg g s) : gQ (f_173 217 s) (fun r => Eg g r.2.2.2) := by
  unfold f_173
  refine gQ_v0 (A := Eg g) (o_169 h) (fun s1 h27 => ?_)
  exact gQ_ret h27

theorem o_174  {a1 : Int} {a2 : Int} {g s : gS}  (h : Eg g s) : gQ (f_174 217 a1 a2 s) (fun r => Eg g r.2.2.2) := by
  unfold f_174
  refine gQ_ite ?_ ?_
  · refine gQ_v1 (A := Eg g) (o_173 h) (fun v2 s1 h28 => ?_)
    refine gQ_loop (fun y => y.1 = 217 ∧ Eg g y.2.2.2.2.2) (fun y hy => ?_) ⟨rfl, h28⟩
    obtain ⟨x0, x1, x2, x3, x4, u29⟩ := y
    obtain ⟨e31, h30⟩ := hy
    dsimp only at e31 h30
    subst e31
    show gQ (sb_174_18 217 x1 x2 x3 x4 u29) _
    unfold sb_174_18
    dsimp only
    refine gQ_ite ?_ ?_
    · refine gQ_v1 (A := Eg g) (o_168 h30) (fun v4 s3 h32 => ?_)
      refine gQ_v1 (A := Eg g) (o_150 h32) (fun v6 s5 h33 => ?_)
      refine gQ_ite ?_ ?_
      · refine gQ_map ?_
        unfold fb_174_89
        refine gQ_ite ?_ ?_
        · unfold fb_174_119
          refine gQ_v0 (A := Eg g) (o_172 h33) (fun s8 h34 => ?_)
          exact gQ_ret h34
        · refine gQ_ite ?_ ?_
          · unfold fb_174_119
            refine gQ_v0 (A := Eg g) (o_172 h33) (fun s8 h35 => ?_)
            exact gQ_ret h35
          · refine gQ_ite ?_ ?_
            · unfold fb_174_119
              refine gQ_v0 (A := Eg g) (o_172 h33) (fun s8 h36 => ?_)
              exact gQ_ret h36
            · refine gQ_ite ?_ ?_
              · unfold fb_174_119
                refine gQ_v0 (A := Eg g) (o_172 h33) (fun s8 h37 => ?_)
                exact gQ_ret h37
              · exact gQ_ret h33
      · refine gQ_ite ?_ ?_
        · refine gQ_map ?_
          unfold fb_174_89
          refine gQ_ite ?_ ?_
          · unfold fb_174_119
            refine gQ_v0 (A := Eg g) (o_172 h33) (fun s8 h38 => ?_)
            exact gQ_ret h38
          · refine gQ_ite ?_ ?_
            · unfold fb_174_119
              refine gQ_v0 (A := Eg g) (o_172 h33) (fun s8 h39 => ?_)
              exact gQ_ret h39
            · refine gQ_ite ?_ ?_
              · unfold fb_174_119
                refine gQ_v0 (A := Eg g) (o_172 h33) (fun s8 h40 => ?_)
                exact gQ_ret h40
              · refine gQ_ite ?_ ?_
                · unfold fb_174_119
                  refine gQ_v0 (A := Eg g) (o_172 h33) (fun s8 h41 => ?_)
                  exact gQ_ret h41
                · exact gQ_ret h33
        · refine gQ_v1 (A := Eg g) (o_168 h33) (fun v11 s10 h42 => ?_)
          exact gQ_ret ⟨rfl, (Eg_w h42 rfl)⟩
    · refine gQ_map ?_
      unfold fb_174_89
      refine gQ_ite ?_ ?_
      · unfold fb_174_119
        refine gQ_v0 (A := Eg g) (o_172 h30) (fun s8 h43 => ?_)
        exact gQ_ret h43
      · refine gQ_ite ?_ ?_
        · unfold fb_174_119
          refine gQ_v0 (A := Eg g) (o_172 h30) (fun s8 h44 => ?_)
          exact gQ_ret h44
        · refine gQ_ite ?_ ?_
          · unfold fb_174_119
            refine gQ_v0 (A := Eg g) (o_172 h30) (fun s8 h45 => ?_)
            exact gQ_ret h45
          · refine gQ_ite ?_ ?_
            · unfold fb_174_119
              refine gQ_v0 (A := Eg g) (o_172 h30) (fun s8 h46 => ?_)
              exact gQ_ret h46
            · exact gQ_ret h30
  · exact gQ_ret h

theorem o_188   {g s : gS}  (h : Eg g s) : gQ (f_188 217 s) (fun r => Eg g r.2.2.2) := by
  unfold f_188
  refine gQ_ite ?_ ?_
  · refine gQ_v0 (A := Eg g) (o_169 h) (fun s1 h47 => ?_)
    refine gQ_ite ?_ ?_
    · refine gQ_v1 (A := Eg g) (o_168 h47) (fun v4 s3 h48 => ?_)
      refine gQ_v1 (A := Eg g) (o_150 h48) (fun v6 s5 h49 => ?_)
      refine gQ_ite ?_ ?_
      · unfold fb_188_52
        refine gQ_v1 (A := Eg g) (o_171 h49) (fun v9 s8 h50 => ?_)
        refine gQ_ite ?_ ?_
        · refine gQ_v1 (A := Eg g) (o_171 h50) (fun v12 s11 h51 => ?_)
          refine gQ_ite ?_ ?_
          · refine gQ_v1 (A := Eg g) (o_171 h51) (fun v15 s14 h52 => ?_)
            refine gQ_ite ?_ ?_
            · refine gQ_v1 (A := Eg g) (o_171 h52) (fun v18 s17 h53 => ?_)
              refine gQ_ite ?_ ?_
              · refine gQ_v1 (A := Eg g) (o_171 h53) (fun v21 s20 h54 => ?_)
                refine gQ_ite ?_ ?_
                · refine gQ_v1 (A := Eg g) (o_171 h54) (fun v24 s23 h55 => ?_)
                  refine gQ_ite ?_ ?_
                  · refine gQ_v1 (A := Eg g) (o_171 h55) (fun v27 s26 h56 => ?_)
                    refine gQ_ite ?_ ?_
                    · unfold fb_188_145
                      refine gQ_ite ?_ ?_
                      · refine gQ_v0 (A := Eg g) (o_172 h56) (fun s29 h57 => ?_)
                        exact gQ_ret h57
                      · refine gQ_chk ?_
                        exact gQ_ret h56
                    · unfold fb_188_145
                      refine gQ_ite ?_ ?_
                      · refine gQ_v0 (A := Eg g) (o_172 h56) (fun s29 h58 => ?_)
                        exact gQ_ret h58
                      · refine gQ_chk ?_
                        exact gQ_ret h56
                  · unfold fb_188_145
                    refine gQ_ite ?_ ?_
                    · refine gQ_v0 (A := Eg g) (o_172 h55) (fun s29 h59 => ?_)
                      exact gQ_ret h59
                    · refine gQ_chk ?_
                      exact gQ_ret h55
                · unfold fb_188_145
                  refine gQ_ite ?_ ?_
                  · refine gQ_v0 (A := Eg g) (o_172 h54) (fun s29 h60 => ?_)
                    exact gQ_ret h60
                  · refine gQ_chk ?_
                    exact gQ_ret h54
              · unfold fb_188_145
                refine gQ_ite ?_ ?_
                · refine gQ_v0 (A := Eg g) (o_172 h53) (fun s29 h61 => ?_)
                  exact gQ_ret h61
                · refine gQ_chk ?_
                  exact gQ_ret h53
            · unfold fb_188_145
              refine gQ_ite ?_ ?_
              · refine gQ_v0 (A := Eg g) (o_172 h52) (fun s29 h62 => ?_)
                exact gQ_ret h62
              · refine gQ_chk ?_
                exact gQ_ret h52
          · unfold fb_188_145
            refine gQ_ite ?_ ?_
            · refine gQ_v0 (A := Eg g) (o_172 h51) (fun s29 h63 => ?_)
              exact gQ_ret h63
            · refine gQ_chk ?_
              exact gQ_ret h51
        · unfold fb_188_145
          refine gQ_ite ?_ ?_
          · refine gQ_v0 (A := Eg g) (o_172 h50) (fun s29 h64 => ?_)
            exact gQ_ret h64
          · refine gQ_chk ?_
            exact gQ_ret h50
      · refine gQ_v1 (A := Eg g) (o_174 h49) (fun v32 s31 h65 => ?_)
        exact gQ_ret h65
    · unfold fb_188_52
      refine gQ_v1 (A := Eg g) (o_171 h47) (fun v9 s8 h66 => ?_)
      refine gQ_ite ?_ ?_
      · refine gQ_v1 (A := Eg g) (o_171 h66) (fun v12 s11 h67 => ?_)
        refine gQ_ite ?_ ?_
        · refine gQ_v1 (A := Eg g) (o_171 h67) (fun v15 s14 h68 => ?_)
          refine gQ_ite ?_ ?_
          · refine gQ_v1 (A := Eg g) (o_171 h68) (fun v18 s17 h69 => ?_)
            refine gQ_ite ?_ ?_
            · refine gQ_v1 (A := Eg g) (o_171 h69) (fun v21 s20 h70 => ?_)
              refine gQ_ite ?_ ?_
              · refine gQ_v1 (A := Eg g) (o_171 h70) (fun v24 s23 h71 => ?_)
                refine gQ_ite ?_ ?_
                · refine gQ_v1 (A := Eg g) (o_171 h71) (fun v27 s26 h72 => ?_)
                  refine gQ_ite ?_ ?_
                  · unfold fb_188_145
                    refine gQ_ite ?_ ?_
                    · refine gQ_v0 (A := Eg g) (o_172 h72) (fun s29 h73 => ?_)
                      exact gQ_ret h73
                    · refine gQ_chk ?_
                      exact gQ_ret h72
                  · unfold fb_188_145
                    refine gQ_ite ?_ ?_
                    · refine gQ_v0 (A := Eg g) (o_172 h72) (fun s29 h74 => ?_)
                      exact gQ_ret h74
                    · refine gQ_chk ?_
                      exact gQ_ret h72
                · unfold fb_188_145
                  refine gQ_ite ?_ ?_
                  · refine gQ_v0 (A := Eg g) (o_172 h71) (fun s29 h75 => ?_)
                    exact gQ_ret h75
                  · refine gQ_chk ?_
                    exact gQ_ret h71
              · unfold fb_188_145
                refine gQ_ite ?_ ?_
                · refine gQ_v0 (A := Eg g) (o_172 h70) (fun s29 h76 => ?_)
                  exact gQ_ret h76
                · refine gQ_chk ?_
                  exact gQ_ret h70
            · unfold fb_188_145
              refine gQ_ite ?_ ?_
              · refine gQ_v0 (A := Eg g) (o_172 h69) (fun s29 h77 => ?_)
                exact gQ_ret h77
              · refine gQ_chk ?_
                exact gQ_ret h69
          · unfold fb_188_145
            refine gQ_ite ?_ ?_
            · refine gQ_v0 (A := Eg g) (o_172 h68) (fun s29 h78 => ?_)
              exact gQ_ret h78
            · refine gQ_chk ?_
              exact gQ_ret h68
        · unfold fb_188_145
          refine gQ_ite ?_ ?_
          · refine gQ_v0 (A := Eg g) (o_172 h67) (fun s29 h79 => ?_)
            exact gQ_ret h79
          · refine gQ_chk ?_
            exact gQ_ret h67
      · unfold fb_188_145
        refine gQ_ite ?_ ?_
        · refine gQ_v0 (A := Eg g) (o_172 h66) (fun s29 h80 => ?_)
          exact gQ_ret h80
        · refine gQ_chk ?_
          exact gQ_ret h66
  · exact gQ_ret h

theorem o_189   {g s : gS}  (h : Eg g s) : gQ (f_189 217 s) (fun r => Eg g r.2.2.2) := by
  unfold f_189
  refine gQ_v1 (A := Eg g) (o_188 h) (fun v2 s1 h81 => ?_)
  refine gQ_loop (fun y => y.1 = 217 ∧ Eg g y.2.2) (fun y hy => ?_) ⟨rfl, h81⟩
  obtain ⟨x0, x1, u82⟩ := y
  obtain ⟨e84, h83⟩ := hy
  dsimp only at e84 h83
  subst e84
  show gQ (sb_189_5 217 x1 u82) _
  unfold sb_189_5
  dsimp only
  refine gQ_ite ?_ ?_
  · refine gQ_v1 (A := Eg g) (o_170 h83) (fun v4 s3 h85 => ?_)
    refine gQ_ite ?_ ?_
    · refine gQ_map ?_
      exact gQ_ret h85
    · refine gQ_v1 (A := Eg g) (o_188 (Eg_w h85 rfl)) (fun v8 s7 h86 => ?_)
      exact gQ_ret ⟨rfl, h86⟩
  · refine gQ_map ?_
    exact gQ_ret h83

theorem o_190   {g s : gS}  (h : Eg g s) : gQ (f_190 217 s) (fun r => Eg g r.2.2.2) := by
  unfold f_190
  refine gQ_v1 (A := Eg g) (o_171 h) (fun v2 s1 h87 => ?_)
  refine gQ_ite ?_ ?_
  · refine gQ_v1 (A := Eg g) (o_171 h87) (fun v5 s4 h88 => ?_)
    refine gQ_ite ?_ ?_
    · refine gQ_v1 (A := Eg g) (o_189 h88) (fun v8 s7 h89 => ?_)
      refine gQ_ite ?_ ?_
      · refine gQ_v1 (A := Eg g) (o_170 h89) (fun v10 s9 h90 => ?_)
        refine gQ_ite ?_ ?_
        · refine gQ_v1 (A := Eg g) (o_170 h90) (fun v13 s12 h91 => ?_)
          refine gQ_ite ?_ ?_
          · refine gQ_v0 (A := Eg g) (o_172 h91) (fun s15 h92 => ?_)
            exact gQ_ret h92
          · unfold fb_190_73
            dsimp only
            refine gQ_v1 (A := Eg g) (o_189 (Eg_w h91 rfl)) (fun v19 s18 h93 => ?_)
            refine gQ_ite ?_ ?_
            · refine gQ_ite ?_ ?_
              · exact gQ_ret h93
              · exact gQ_ret h93
            · refine gQ_ite ?_ ?_
              · exact gQ_ret h93
              · exact gQ_ret h93
        · unfold fb_190_73
          dsimp only
          refine gQ_v1 (A := Eg g) (o_189 (Eg_w h90 rfl)) (fun v19 s18 h94 => ?_)
          refine gQ_ite ?_ ?_
          · refine gQ_ite ?_ ?_
            · exact gQ_ret h94
            · exact gQ_ret h94
          · refine gQ_ite ?_ ?_
            · exact gQ_ret h94
            · exact gQ_ret h94
      · exact gQ_ret h89
    · refine gQ_bool ?_
      exact gQ_ret h88
  · refine gQ_bool ?_
    exact gQ_ret h87

theorem o_fo_191 {r_191 : Nat → gS → Option gO} {r_193 : Nat → gS → Option gO}  {g s : gS} (hr_191 : ∀ {s : gS}, Eg g s → gQ (r_191 217 s) (fun r => Eg g r.2.2.2)) (hr_193 : ∀ {s : gS}, Eg g s → gQ (r_193 217 s) (fun r => Eg g r.2.2.2)) (h : Eg g s) : gQ (fo_191 r_191 r_193 217 s) (fun r => Eg g r.2.2.2) := by
  unfold fo_191
  refine gQ_ite ?_ ?_
  · refine gQ_v1 (A := Eg g) (o_173 h) (fun v2 s1 h95 => ?_)
    refine gQ_v1 (A := Eg g) (o_171 h95) (fun v4 s3 h96 => ?_)
    refine gQ_ite ?_ ?_
    · refine gQ_v1 (A := Eg g) (o_170 h96) (fun v7 s6 h97 => ?_)
      refine gQ_ite ?_ ?_
      · refine gQ_v1 (A := Eg g) (o_190 h97) (fun v10 s9 h98 => ?_)
        exact gQ_ret h98
      · unfold fb_191_40
        dsimp only
        refine gQ_ite ?_ ?_
        · refine gQ_v0 (A := Eg g) (o_172 h97) (fun s12 h99 => ?_)
          exact gQ_ret h99
        · refine gQ_ite ?_ ?_
          · refine gQ_v1 (A := Eg g) (hr_193 (Eg_w (Eg_w h97 rfl) rfl)) (fun v17 s16 h100 => ?_)
            refine gQ_ite ?_ ?_
            · refine gQ_v1 (A := Eg g) (o_170 h100) (fun v20 s19 h101 => ?_)
              refine gQ_ite ?_ ?_
              · refine gQ_v0 (A := Eg g) (o_172 h101) (fun s22 h102 => ?_)
                unfold fb_191_128
                dsimp only
                unfold fb_191_138
                dsimp only
                refine gQ_bool ?_
                exact gQ_ret (Eg_w (Eg_w h102 rfl) rfl)
              · unfold fb_191_128
                dsimp only
                unfold fb_191_138
                dsimp only
                refine gQ_bool ?_
                exact gQ_ret (Eg_w (Eg_w h101 rfl) rfl)
            · unfold fb_191_128
              dsimp only
              unfold fb_191_138
              dsimp only
              refine gQ_bool ?_
              exact gQ_ret (Eg_w (Eg_w h100 rfl) rfl)
          · refine gQ_v1 (A := Eg g) (hr_191 (Eg_w h97 rfl)) (fun v27 s26 h103 => ?_)
            refine gQ_ite ?_ ?_
            · unfold fb_191_138
              dsimp only
              refine gQ_bool ?_
              exact gQ_ret (Eg_w h103 rfl)
            · unfold fb_191_138
              dsimp only
              refine gQ_bool ?_
              exact gQ_ret (Eg_w h103 rfl)
    · unfold fb_191_40
      dsimp only
      refine gQ_ite ?_ ?_
      · refine gQ_v0 (A := Eg g) (o_172 h96) (fun s12 h104 => ?_)
        exact gQ_ret h104
      · refine gQ_ite ?_ ?_
        · refine gQ_v1 (A := Eg g) (hr_193 (Eg_w (Eg_w h96 rfl) rfl)) (fun v17 s16 h105 => ?_)
          refine gQ_ite ?_ ?_
          · refine gQ_v1 (A := Eg g) (o_170 h105) (fun v20 s19 h106 => ?_)
            refine gQ_ite ?_ ?_
            · refine gQ_v0 (A := Eg g) (o_172 h106) (fun s22 h107 => ?_)
              unfold fb_191_128
              dsimp only
              unfold fb_191_138
              dsimp only
              refine gQ_bool ?_
              exact gQ_ret (Eg_w (Eg_w h107 rfl) rfl)
            · unfold fb_191_128
              dsimp only
              unfold fb_191_138
              dsimp only
              refine gQ_bool ?_
              exact gQ_ret (Eg_w (Eg_w h106 rfl) rfl)
          · unfold fb_191_128
            dsimp only
            unfold fb_191_138
            dsimp only
            refine gQ_bool ?_
            exact gQ_ret (Eg_w (Eg_w h105 rfl) rfl)
        · refine gQ_v1 (A := Eg g) (hr_191 (Eg_w h96 rfl)) (fun v27 s26 h108 => ?_)
          refine gQ_ite ?_ ?_
          · unfold fb_191_138
            dsimp only
            refine gQ_bool ?_
            exact gQ_ret (Eg_w h108 rfl)
          · unfold fb_191_138
            dsimp only
            refine gQ_bool ?_
            exact gQ_ret (Eg_w h108 rfl)
  · exact gQ_ret h

theorem o_fo_192 {r_191 : Nat → gS → Option gO}  {g s : gS} (hr_191 : ∀ {s : gS}, Eg g s → gQ (r_191 217 s) (fun r => Eg g r.2.2.2)) (h : Eg g s) : gQ (fo_192 r_191 217 s) (fun r => Eg g r.2.2.2) := by
  unfold fo_192
  refine gQ_v1 (A := Eg g) (hr_191 h) (fun v2 s1 h109 => ?_)
  refine gQ_loop (fun y => y.1 = 217 ∧ Eg g y.2.2) (fun y hy => ?_) ⟨rfl, h109⟩
  obtain ⟨x0, x1, u110⟩ := y
  obtain ⟨e112, h111⟩ := hy
  dsimp only at e112 h111
  subst e112
  show gQ (sb_192_5 r_191 217 x1 u110) _
  unfold sb_192_5
  refine gQ_ite ?_ ?_
  · refine gQ_v1 (A := Eg g) (o_171 h111) (fun v5 s4 h113 => ?_)
    refine gQ_ite ?_ ?_
    · refine gQ_map ?_
      refine gQ_bool ?_
      exact gQ_ret h113
    · refine gQ_v1 (A := Eg g) (hr_191 h113) (fun v8 s7 h114 => ?_)
      refine gQ_ite ?_ ?_
      · unfold fb_192_39
        exact gQ_ret ⟨rfl, h114⟩
      · refine gQ_ite ?_ ?_
        · unfold fb_192_39
          exact gQ_ret ⟨rfl, h114⟩
        · exact gQ_ret ⟨rfl, h114⟩
  · refine gQ_map ?_
    refine gQ_bool ?_
    exact gQ_ret h111

theorem o_fo_193 {r_192 : Nat → gS → Option gO}  {g s : gS} (hr_192 : ∀ {s : gS}, Eg g s → gQ (r_192 217 s) (fun r => Eg g r.2.2.2)) (h : Eg g s) : gQ (fo_193 r_192 217 s) (fun r => Eg g r.2.2.2) := by
  unfold fo_193
  refine gQ_v1 (A := Eg g) (hr_192 h) (fun v2 s1 h115 => ?_)
  refine gQ_loop (fun y => y.1 = 217 ∧ Eg g y.2.2) (fun y hy => ?_) ⟨rfl, h115⟩
  obtain ⟨x0, x1, u116⟩ := y
  obtain ⟨e118, h117⟩ := hy
  dsimp only at e118 h117
  subst e118
  show gQ (sb_193_5 r_192 217 x1 u116) _
  unfold sb_193_5
  refine gQ_ite ?_ ?_
  · refine gQ_v1 (A := Eg g) (o_171 h117) (fun v5 s4 h119 => ?_)
    refine gQ_ite ?_ ?_
    · refine gQ_map ?_
      refine gQ_bool ?_
      exact gQ_ret h119
    · refine gQ_v1 (A := Eg g) (hr_192 h119) (fun v8 s7 h120 => ?_)
      refine gQ_ite ?_ ?_
      · refine gQ_ite ?_ ?_
        · exact gQ_ret ⟨rfl, h120⟩
        · exact gQ_ret ⟨rfl, h120⟩
      · exact gQ_ret ⟨rfl, h120⟩
  · refine gQ_map ?_
    refine gQ_bool ?_
    exact gQ_ret h117

theorem o_rgm (n : Nat) : ∀ {g s : gS}, Eg g s → gQ (fn_191 n 217 s) (fun r => Eg g r.2.2.2) ∧ gQ (fn_192 n 217 s) (fun r => Eg g r.2.2.2) ∧ gQ (fn_193 n 217 s) (fun r => Eg g r.2.2.2) := by
  induction n with
  | zero => intro g s h; exact ⟨gQ_none, gQ_none, gQ_none⟩
  | succ n ih =>
    intro g s h
    exact ⟨o_fo_191 (r_191 := fn_191 n) (r_193 := fn_193 n) (fun h => (ih h).1) (fun h => (ih h).2.2) h, o_fo_192 (r_191 := fn_191 n) (fun h => (ih h).1) h, o_fo_193 (r_192 := fn_192 n) (fun h => (ih h).2.1) h⟩
theorem o_193 {g s : gS} (h : Eg g s) : gQ (f_193 217 s) (fun r => Eg g r.2.2.2) := (o_rgm 24 h).2.2

theorem o_194   {g s : gS}  (h : Eg g s) : gQ (f_194 217 s) (fun r => Eg g r.2.2.2) := by
  unfold f_194
  refine gQ_v1 (A := Eg g) (o_171 h) (fun v2 s1 h121 => ?_)
  refine gQ_ite ?_ ?_
  · refine gQ_v1 (A := Eg g) (o_171 h121) (fun v5 s4 h122 => ?_)
    refine gQ_ite ?_ ?_
    · refine gQ_v0 (A := Eg g) (o_172 h122) (fun s7 h123 => ?_)
      exact gQ_ret h123
    · unfold fb_194_29
      refine gQ_v1 (A := Eg g) (o_174 h122) (fun v10 s9 h124 => ?_)
      refine gQ_ite ?_ ?_
      · refine gQ_v1 (A := Eg g) (o_171 h124) (fun v12 s11 h125 => ?_)
        refine gQ_ite ?_ ?_
        · unfold fb_194_67
          refine gQ_ite ?_ ?_
          · rw [if_neg (by decide)]
            refine gQ_ite ?_ ?_
            · unfold fb_194_95
              dsimp only
              exact gQ_ret (Eg_w h125 rfl)
            · unfold fb_194_95
              dsimp only
              exact gQ_ret (Eg_w h125 rfl)
          · exact gQ_ret h125
        · refine gQ_v1 (A := Eg g) (o_193 h125) (fun v16 s15 h126 => ?_)
          refine gQ_ite ?_ ?_
          · unfold fb_194_67
            refine gQ_ite ?_ ?_
            · refine gQ_ite ?_ ?_
              · exact gQ_ret h126
              · refine gQ_ite ?_ ?_
                · unfold fb_194_95
                  dsimp only
                  exact gQ_ret (Eg_w h126 rfl)
                · unfold fb_194_95
                  dsimp only
                  exact gQ_ret (Eg_w h126 rfl)
            · exact gQ_ret h126
          · unfold fb_194_67
            refine gQ_ite ?_ ?_
            · rw [if_neg (by decide)]
              refine gQ_ite ?_ ?_
              · unfold fb_194_95
                dsimp only
                exact gQ_ret (Eg_w h126 rfl)
              · unfold fb_194_95
                dsimp only
                exact gQ_ret (Eg_w h126 rfl)
            · exact gQ_ret h126
      · exact gQ_ret h124
  · unfold fb_194_29
    refine gQ_v1 (A := Eg g) (o_174 h121) (fun v10 s9 h127 => ?_)
    refine gQ_ite ?_ ?_
    · refine gQ_v1 (A := Eg g) (o_171 h127) (fun v12 s11 h128 => ?_)
      refine gQ_ite ?_ ?_
      · unfold fb_194_67
        refine gQ_ite ?_ ?_
        · rw [if_neg (by decide)]
          refine gQ_ite ?_ ?_
          · unfold fb_194_95
            dsimp only
            exact gQ_ret (Eg_w h128 rfl)
          · unfold fb_194_95
            dsimp only
            exact gQ_ret (Eg_w h128 rfl)
        · exact gQ_ret h128
      · refine gQ_v1 (A := Eg g) (o_193 h128) (fun v16 s15 h129 => ?_)
        refine gQ_ite ?_ ?_
        · unfold fb_194_67
          refine gQ_ite ?_ ?_
          · refine gQ_ite ?_ ?_
            · exact gQ_ret h129
            · refine gQ_ite ?_ ?_
              · unfold fb_194_95
                dsimp only
                exact gQ_ret (Eg_w h129 rfl)
              · unfold fb_194_95
                dsimp only
                exact gQ_ret (Eg_w h129 rfl)
          · exact gQ_ret h129
        · unfold fb_194_67
          refine gQ_ite ?_ ?_
          · rw [if_neg (by decide)]
            refine gQ_ite ?_ ?_
            · unfold fb_194_95
              dsimp only
              exact gQ_ret (Eg_w h129 rfl)
            · unfold fb_194_95
              dsimp only
              exact gQ_ret (Eg_w h129 rfl)
          · exact gQ_ret h129
    · exact gQ_ret h127

theorem o_184   {g s : gS}  (h : Eg g s) : gQ (f_184 217 1 s) (fun r => Eg g r.2.2.2) := by
  unfold f_184
  refine gQ_v0 (A := Eg g) (o_169 h) (fun s1 h130 => ?_)
  refine gQ_ite ?_ ?_
  · unfold fb_184_20
    refine gQ_loop (fun y => y.1 = 217 ∧ y.2.1 = 1 ∧ Eg g y.2.2.2.2) (fun y hy => ?_) ⟨rfl, rfl, h130⟩
    obtain ⟨x0, x1, x2, x3, u131⟩ := y
    obtain ⟨e133, e134, h132⟩ := hy
    dsimp only at e133 e134 h132
    subst e133 e134
    show gQ (sb_184_23 217 1 x2 x3 u131) _
    unfold sb_184_23
    refine gQ_ite ?_ ?_
    · refine gQ_map ?_
      exact gQ_ret h132
    · refine gQ_ite ?_ ?_
      · refine gQ_v0 (A := Eg g) (o_169 h132) (fun s3 h135 => ?_)
        rw [if_neg (by decide)]
        unfold fb_184_51
        refine gQ_ite ?_ ?_
        · refine gQ_v0 (A := Eg g) (o_172 h135) (fun s5 h136 => ?_)
          unfold fb_184_80
          dsimp only
          refine gQ_v0 (A := Eg g) (o_169 h136) (fun s7 h137 => ?_)
          refine gQ_ite ?_ ?_
          · refine gQ_ite ?_ ?_
            · exact gQ_ret ⟨rfl, rfl, h137⟩
            · refine gQ_v1 (A := Eg g) (o_170 h137) (fun v10 s9 h138 => ?_)
              refine gQ_ite ?_ ?_
              · refine gQ_v0 (A := Eg g) (o_172 h138) (fun s12 h139 => ?_)
                exact gQ_ret ⟨rfl, rfl, h139⟩
              · exact gQ_ret ⟨rfl, rfl, (Eg_w h138 rfl)⟩
          · exact gQ_ret ⟨rfl, rfl, h137⟩
        · rw [if_neg (by decide)]
          refine gQ_v0 (A := Eg g) (o_194 h135) (fun s17 h140 => ?_)
          unfold fb_184_80
          dsimp only
          refine gQ_v0 (A := Eg g) (o_169 h140) (fun s7 h141 => ?_)
          refine gQ_ite ?_ ?_
          · refine gQ_ite ?_ ?_
            · exact gQ_ret ⟨rfl, rfl, h141⟩
            · refine gQ_v1 (A := Eg g) (o_170 h141) (fun v10 s9 h142 => ?_)
              refine gQ_ite ?_ ?_
              · refine gQ_v0 (A := Eg g) (o_172 h142) (fun s12 h143 => ?_)
                exact gQ_ret ⟨rfl, rfl, h143⟩
              · exact gQ_ret ⟨rfl, rfl, (Eg_w h142 rfl)⟩
          · exact gQ_ret ⟨rfl, rfl, h141⟩
      · refine gQ_map ?_
        exact gQ_ret h132
  · unfold fb_184_20
    refine gQ_loop (fun y => y.1 = 217 ∧ y.2.1 = 1 ∧ Eg g y.2.2.2.2) (fun y hy => ?_) ⟨rfl, rfl, h130⟩
    obtain ⟨x0, x1, x2, x3, u144⟩ := y
    obtain ⟨e146, e147, h145⟩ := hy
    dsimp only at e146 e147 h145
    subst e146 e147
    show gQ (sb_184_23 217 1 x2 x3 u144) _
    unfold sb_184_23
    refine gQ_ite ?_ ?_
    · refine gQ_map ?_
      exact gQ_ret h145
    · refine gQ_ite ?_ ?_
      · refine gQ_v0 (A := Eg g) (o_169 h145) (fun s3 h148 => ?_)
        rw [if_neg (by decide)]
        unfold fb_184_51
        refine gQ_ite ?_ ?_
        · refine gQ_v0 (A := Eg g) (o_172 h148) (fun s5 h149 => ?_)
          unfold fb_184_80
          dsimp only
          refine gQ_v0 (A := Eg g) (o_169 h149) (fun s7 h150 => ?_)
          refine gQ_ite ?_ ?_
          · refine gQ_ite ?_ ?_
            · exact gQ_ret ⟨rfl, rfl, h150⟩
            · refine gQ_v1 (A := Eg g) (o_170 h150) (fun v10 s9 h151 => ?_)
              refine gQ_ite ?_ ?_
              · refine gQ_v0 (A := Eg g) (o_172 h151) (fun s12 h152 => ?_)
                exact gQ_ret ⟨rfl, rfl, h152⟩
              · exact gQ_ret ⟨rfl, rfl, (Eg_w h151 rfl)⟩
          · exact gQ_ret ⟨rfl, rfl, h150⟩
        · rw [if_neg (by decide)]
          refine gQ_v0 (A := Eg g) (o_194 h148) (fun s17 h153 => ?_)
          unfold fb_184_80
          dsimp only
          refine gQ_v0 (A := Eg g) (o_169 h153) (fun s7 h154 => ?_)
          refine gQ_ite ?_ ?_
          · refine gQ_ite ?_ ?_
            · exact gQ_ret ⟨rfl, rfl, h154⟩
            · refine gQ_v1 (A := Eg g) (o_170 h154) (fun v10 s9 h155 => ?_)
              refine gQ_ite ?_ ?_
              · refine gQ_v0 (A := Eg g) (o_172 h155) (fun s12 h156 => ?_)
                exact gQ_ret ⟨rfl, rfl, h156⟩
              · exact gQ_ret ⟨rfl, rfl, (Eg_w h155 rfl)⟩
          · exact gQ_ret ⟨rfl, rfl, h154⟩
      · refine gQ_map ?_
        exact gQ_ret h145

end
section
section Tu
variable {p : gP} {g s s' u u' : gS} {Q : Type} {P : Q → Q → Prop}
theorem gR_w {a k b j : Nat} {v : Int} : gR (gw s a k v) b j = gR s b j := rfl
theorem gG_b1 {PR : gS → gS → Prop} {z z' : Option gO} {E E' : Int → gS → Option Q} (h : gG (fun r r' => r'.1 = r.1 ∧ r'.2.1 = r.2.1 ∧ PR r.2.2.2 r'.2.2.2) z z') (k : ∀ v s s', PR s s' → gG P (E v s) (E' v s')) : gG P (z.bind (gv1 E)) (z'.bind (gv1 E')) := by
  cases z with
  | none => exact gG_none
  | some r =>
    cases z' with
    | none => intro q q' e e'; cases e'
    | some r' =>
      obtain ⟨h1, h2, h4⟩ := h r r' rfl rfl
      show gG P (gv1 E r) (gv1 E' r')
      unfold gv1
      rw [h1, h2]
      exact gG_ite (k _ _ _ h4) gG_none
theorem Eg_R (h : Eg g s) (a k : Nat) : gR s a k = gR g a k := by unfold gR; rw [h.1.2.2]
theorem Eg_14 (h : Eg g s) : gR s 217 14 = 223 := (Eg_R h 217 14).trans h.2.1.2.2.1
theorem sc_lo {r k : Nat} (h2 : r ≠ 223) (h3 : r ≠ 217) : scb r k = false := by
  unfold scb
  rw [es_beqf.mpr h2, es_beqf.mpr h3]
  rfl
/-- as at g, but for the reader's cells and the memo -/
noncomputable def Em (g s : gS) : Prop := Sm g s ∧ (gR g 217 1 = 218 ∧ gR g 217 7 = 222 ∧ gR g 217 14 = 223 ∧ gR g 217 22 = 228) ∧ ∀ a k, a ≠ 228 → scb a k = false → gI s a k = gI g a k
theorem Em_R (h : Em g s) (a k : Nat) : gR s a k = gR g a k := by unfold gR; rw [h.1.2.2]
theorem Em_x (h : Em g s) {f r : Nat} (hr : gR g 217 f = r) (k : Nat) (h8 : r ≠ 228) (hs : scb r k = false) : gI s (gR s 217 f) k = gI g r k := by
  rw [Em_R h, hr]
  exact h.2.2 r k h8 hs
theorem Em_m (h : Em g s) (k : Nat) : gI s (gR s 217 1) k = gI g 218 k := Em_x h h.2.1.1 k (by decide) (sc_lo (by decide) (by decide))
theorem Em_14 (h : Em g s) : gR s 217 14 = 223 := (Em_R h 217 14).trans h.2.1.2.2.1
theorem Em_w {a k : Nat} {v : Int} (h : Em g s) (hc : scb a k = true) : Em g (gw s a k v) := by
  refine ⟨h.1, h.2.1, fun b j h8 hb => ?_⟩
  show (if b = a ∧ j = k then v else gI s b j) = _
  rw [if_neg (fun e => by rw [e.1, e.2, hc] at hb; cases hb)]
  exact h.2.2 b j h8 hb
theorem Eg_rf (h : Em g s) : Eg s s := ⟨Sm_r, ⟨(Em_R h 217 1).trans h.2.1.1, (Em_R h 217 7).trans h.2.1.2.1, (Em_R h 217 14).trans h.2.1.2.2.1, (Em_R h 217 22).trans h.2.1.2.2.2⟩, fun _ _ _ => rfl⟩
theorem Em_eg (h : Em g s) (h2 : Eg s s') : Em g s' := ⟨Sm_t h.1 h2.1, h.2.1, fun a k h8 hs => (h2.2.2 a k hs).trans (h.2.2 a k h8 hs)⟩
/-- alike but for the memo and some cells -/
noncomputable def Ex (C : Nat → Nat → Prop) (s s' : gS) : Prop := (s'.1 = s.1 ∧ s'.2.1 = s.2.1 ∧ s'.2.2.2 = s.2.2.2) ∧ (gR s 217 1 = 218 ∧ gR s 217 7 = 222 ∧ gR s 217 14 = 223) ∧ ∀ a k, a ≠ 228 → ¬ C a k → gI s' a k = gI s a k
theorem X_w {C : Nat → Nat → Prop} {a k : Nat} {v : Int} (h : Ex C s s') : Ex (fun b j => C b j ∧ ¬ (b = a ∧ j = k)) (gw s a k v) (gw s' a k v) := by
  refine ⟨h.1, h.2.1, fun b j hb hc => ?_⟩
  show (if b = a ∧ j = k then v else gI s' b j) = (if b = a ∧ j = k then v else gI s b j)
  by_cases e : b = a ∧ j = k
  · rw [if_pos e, if_pos e]
  · rw [if_neg e, if_neg e]
    exact h.2.2 b j hb (fun z => hc ⟨z, e⟩)
theorem X_8 {C : Nat → Nat → Prop} (h : Ex C s s') (hc : ∀ a k, ¬ C a k) : Eq8 s s' := ⟨h.1, h.2.1, fun a k ha => h.2.2 a k ha (hc a k)⟩
theorem X_m {C C' : Nat → Nat → Prop} (h : Ex C s s') (hc : ∀ a k, C a k → C' a k) : Ex C' s s' := ⟨h.1, h.2.1, fun a k ha z => h.2.2 a k ha (fun q => z (hc a k q))⟩
noncomputable def C0 (a k : Nat) : Prop := (a = 223 ∧ k < 7) ∨ (a = 217 ∧ (k = 9 ∨ k = 10 ∨ k = 11 ∨ k = 12 ∨ k = 13 ∨ k = 15 ∨ k = 16 ∨ k = 17))
noncomputable def C1 (a k : Nat) : Prop := a = 217 ∧ (k = 9 ∨ k = 10 ∨ k = 11 ∨ k = 12 ∨ k = 13 ∨ k = 15 ∨ k = 16 ∨ k = 17)
noncomputable def C2 (a k : Nat) : Prop := a = 217 ∧ (k = 9 ∨ k = 10 ∨ k = 11 ∨ k = 12 ∨ k = 13 ∨ k = 16 ∨ k = 17)
theorem lt7_c {j : Nat} (h : j < 7) : j = 0 ∨ j = 1 ∨ j = 2 ∨ j = 3 ∨ j = 4 ∨ j = 5 ∨ j = 6 := by omega
theorem scb_f {a k : Nat} (hc : ¬ C0 a k) : scb a k = false := by
  unfold C0 at hc
  unfold scb
  cases e1 : Nat.beq a 223 with
  | true =>
    have e1 := es_beq.mp e1
    have : Nat.blt k 7 = false := by
      cases e : Nat.blt k 7 with
      | true => have := es_blt.mp e; omega
      | false => rfl
    rw [this, es_beqf.mpr (show a ≠ 217 by omega)]
    rfl
  | false =>
    cases e2 : Nat.beq a 217 with
    | true =>
      have e2 := es_beq.mp e2
      rw [es_beqf.mpr (show k ≠ 9 by omega), es_beqf.mpr (show k ≠ 10 by omega), es_beqf.mpr (show k ≠ 11 by omega), es_beqf.mpr (show k ≠ 12 by omega), es_beqf.mpr (show k ≠ 13 by omega), es_beqf.mpr (show k ≠ 15 by omega), es_beqf.mpr (show k ≠ 16 by omega), es_beqf.mpr (show k ≠ 17 by omega)]
      rfl
    | false => rfl
theorem Em_X (h : Em g s) (h' : Em g s') : Ex C0 s s' := by
  refine ⟨⟨h'.1.1.trans h.1.1.symm, h'.1.2.1.trans h.1.2.1.symm, h'.1.2.2.trans h.1.2.2.symm⟩, ⟨(Em_R h 217 1).trans h.2.1.1, (Em_R h 217 7).trans h.2.1.2.1, Em_14 h⟩, fun a k ha hc => ?_⟩
  rw [h'.2.2 a k ha (scb_f hc), h.2.2 a k ha (scb_f hc)]
noncomputable def PV (g : gS) (r r' : gO) : Prop := r'.1 = r.1 ∧ r'.2.1 = r.2.1 ∧ Em g r.2.2.2 ∧ Em g r'.2.2.2
theorem v197_c {w : Int} (hx : Ex C2 u u') (h : Em g u) (h' : Em g u') : gG (PV g) (fb_197_100 217 w 217 u) (fb_197_100 217 w 217 u') := by
  unfold fb_197_100
  refine gG_bool ?_
  dsimp only
  have k1 : Em g (gw (gw (gw (gw u 217 16 w) 217 17 0) 217 12 (-1)) 217 9 340) := Em_w (Em_w (Em_w (Em_w h rfl) rfl) rfl) rfl
  have k2 : Em g (gw (gw (gw (gw u' 217 16 w) 217 17 0) 217 12 (-1)) 217 9 340) := Em_w (Em_w (Em_w (Em_w h' rfl) rfl) rfl) rfl
  rw [Em_m k1 2, Em_m k2 2]
  have x := X_w (a := 217) (k := 13) (v := 0) (X_w (a := 217) (k := 11) (v := 0) (X_w (a := 217) (k := 10) (v := gI g 218 2) (X_w (a := 217) (k := 9) (v := 340) (X_w (a := 217) (k := 12) (v := -1) (X_w (a := 217) (k := 17) (v := 0) (X_w (a := 217) (k := 16) (v := w) hx))))))
  have e8 := X_8 x (fun b j z => by
    obtain ⟨⟨⟨⟨⟨⟨⟨⟨e, h⟩, n16⟩, n17⟩, n12⟩, n9⟩, n10⟩, n11⟩, n13⟩ := z
    rcases h with h | h | h | h | h | h | h
    · exact n9 ⟨e, h⟩
    · exact n10 ⟨e, h⟩
    · exact n11 ⟨e, h⟩
    · exact n12 ⟨e, h⟩
    · exact n13 ⟨e, h⟩
    · exact n16 ⟨e, h⟩
    · exact n17 ⟨e, h⟩)
  have m1 := Em_w (a := 217) (k := 13) (v := 0) (Em_w (a := 217) (k := 11) (v := 0) (Em_w (a := 217) (k := 10) (v := gI g 218 2) k1 rfl) rfl) rfl
  have m2 := Em_w (a := 217) (k := 13) (v := 0) (Em_w (a := 217) (k := 11) (v := 0) (Em_w (a := 217) (k := 10) (v := gI g 218 2) k2 rfl) rfl) rfl
  refine gG_b1 (PR := fun s s' => gI s' 217 17 = gI s 217 17 ∧ Em g s ∧ Em g s') (fun r r' e e' => ?_) (fun v s s' hp => ?_)
  · have q := n_184 e8 r r' e e'
    exact ⟨q.1, q.2.1, E_i q.2.2.2 17, Em_eg m1 (o_184 (Eg_rf m1) r e), Em_eg m2 (o_184 (Eg_rf m2) r' e')⟩
  · refine gG_ret ⟨rfl, ?_, Em_w hp.2.1 rfl, Em_w hp.2.2 rfl⟩
    dsimp only
    rw [rd_k (a := 217) (k := 17) rfl (by decide), rd_k (a := 217) (k := 17) rfl (by decide)]
    exact hp.1
theorem v197_b {a4 w : Int} (hx : Ex C1 u u') (h : Em g u) (h' : Em g u') : gG (PV g) (fb_197_80 217 a4 w 217 u) (fb_197_80 217 a4 w 217 u') := by
  unfold fb_197_80
  refine gG_bool ?_
  dsimp only
  have k1 : Em g (gw u 217 15 w) := Em_w h rfl
  have k2 : Em g (gw u' 217 15 w) := Em_w h' rfl
  rw [Em_m k1 3, Em_m k2 3]
  have x : Ex C2 (gw u 217 15 w) (gw u' 217 15 w) := X_m (X_w hx) (fun b j hc => by
    obtain ⟨⟨e, h⟩, n15⟩ := hc
    rcases h with h | h | h | h | h | h | h | h
    · exact ⟨e, Or.inl h⟩
    · exact ⟨e, Or.inr (Or.inl h)⟩
    · exact ⟨e, Or.inr (Or.inr (Or.inl h))⟩
    · exact ⟨e, Or.inr (Or.inr (Or.inr (Or.inl h)))⟩
    · exact ⟨e, Or.inr (Or.inr (Or.inr (Or.inr (Or.inl h))))⟩
    · exact absurd ⟨e, h⟩ n15
    · exact ⟨e, Or.inr (Or.inr (Or.inr (Or.inr (Or.inr (Or.inl h)))))⟩
    · exact ⟨e, Or.inr (Or.inr (Or.inr (Or.inr (Or.inr (Or.inr h)))))⟩)
  exact gG_ite (v197_c x k1 k2) (v197_c x k1 k2)
theorem v_197 {a1 a2 a3 a4 a5 a6 a7 : Int} (h : Em g s) (h' : Em g s') : gG (PV g) (f_197 217 a1 a2 a3 a4 a5 a6 a7 s) (f_197 217 a1 a2 a3 a4 a5 a6 a7 s') := by
  unfold f_197
  rw [Em_m h 1, Em_m h' 1]
  refine gG_ite (gG_ret ⟨rfl, rfl, h, h'⟩) ?_
  dsimp only
  simp only [gR_w, Em_14 h, Em_14 h']
  have x := X_w (a := 223) (k := 6) (v := a7) (X_w (a := 223) (k := 5) (v := gdiv a6 10) (X_w (a := 223) (k := 4) (v := a5) (X_w (a := 223) (k := 3) (v := a4) (X_w (a := 223) (k := 2) (v := a3) (X_w (a := 223) (k := 1) (v := a2) (X_w (a := 223) (k := 0) (v := a1) (Em_X h h')))))))
  have x := X_m (C' := C1) x (fun b j hc => by
    obtain ⟨⟨⟨⟨⟨⟨⟨h0, n0⟩, n1⟩, n2⟩, n3⟩, n4⟩, n5⟩, n6⟩ := hc
    rcases h0 with ⟨e, l⟩ | h
    · rcases lt7_c l with h | h | h | h | h | h | h
      · exact absurd ⟨e, h⟩ n0
      · exact absurd ⟨e, h⟩ n1
      · exact absurd ⟨e, h⟩ n2
      · exact absurd ⟨e, h⟩ n3
      · exact absurd ⟨e, h⟩ n4
      · exact absurd ⟨e, h⟩ n5
      · exact absurd ⟨e, h⟩ n6
    · exact h)
  have m1 := Em_w (a := 223) (k := 6) (v := a7) (Em_w (a := 223) (k := 5) (v := gdiv a6 10) (Em_w (a := 223) (k := 4) (v := a5) (Em_w (a := 223) (k := 3) (v := a4) (Em_w (a := 223) (k := 2) (v := a3) (Em_w (a := 223) (k := 1) (v := a2) (Em_w (a := 223) (k := 0) (v := a1) h rfl) rfl) rfl) rfl) rfl) rfl) rfl
  have m2 := Em_w (a := 223) (k := 6) (v := a7) (Em_w (a := 223) (k := 5) (v := gdiv a6 10) (Em_w (a := 223) (k := 4) (v := a5) (Em_w (a := 223) (k := 3) (v := a4) (Em_w (a := 223) (k := 2) (v := a3) (Em_w (a := 223) (k := 1) (v := a2) (Em_w (a := 223) (k := 0) (v := a1) h' rfl) rfl) rfl) rfl) rfl) rfl) rfl
  exact gG_ite (v197_b x m1 m2) (v197_b x m1 m2)
theorem q197_b {s0 : gS} {a4 w : Int} (h : Eg s0 u) : gQ (fb_197_80 217 a4 w 217 u) (fun r => Eg s0 r.2.2.2) := by
  have h1 : ∀ x : Int, gQ (fb_197_100 217 x 217 (gw u 217 15 w)) (fun r => Eg s0 r.2.2.2) := by
    intro x
    unfold fb_197_100
    refine gQ_bool ?_
    dsimp only
    exact gQ_v1 (A := Eg s0) (o_184 (Eg_w (Eg_w (Eg_w (Eg_w (Eg_w (Eg_w (Eg_w (Eg_w h rfl) rfl) rfl) rfl) rfl) rfl) rfl) rfl)) (fun v s hs => gQ_ret (Eg_w hs rfl))
  unfold fb_197_80
  refine gQ_bool ?_
  dsimp only
  exact gQ_ite (h1 _) (h1 _)
theorem q_197 {s0 : gS} {a1 a2 a3 a4 a5 a6 a7 : Int} (h : Eg s0 s) : gQ (f_197 217 a1 a2 a3 a4 a5 a6 a7 s) (fun r => Eg s0 r.2.2.2) := by
  unfold f_197
  refine gQ_ite (gQ_ret h) ?_
  dsimp only
  simp only [gR_w, Eg_14 h]
  have m1 := Eg_w (a := 223) (k := 6) (v := a7) (Eg_w (a := 223) (k := 5) (v := gdiv a6 10) (Eg_w (a := 223) (k := 4) (v := a5) (Eg_w (a := 223) (k := 3) (v := a4) (Eg_w (a := 223) (k := 2) (v := a3) (Eg_w (a := 223) (k := 1) (v := a2) (Eg_w (a := 223) (k := 0) (v := a1) h rfl) rfl) rfl) rfl) rfl) rfl) rfl
  exact gQ_ite (q197_b m1) (q197_b m1)
/-- by what the law turns, at the start g -/
noncomputable def tv (g : gS) (a1 a2 a3 a4 a5 a6 a7 : Int) : Int := match f_197 217 a1 a2 a3 a4 a5 a6 a7 g with
  | some r => r.2.1
  | none => 0
theorem Em_r (h : J p g) : Em g g := ⟨Sm_r, ⟨r_m h t12, r_mt h t12, J_r h rfl (by decide +kernel) (by decide +kernel), J_r h rfl (by decide +kernel) (by decide +kernel)⟩, fun _ _ _ _ => rfl⟩
theorem w_197 {a1 a2 a3 a4 a5 a6 a7 : Int} (hp : -1 ≤ p.1 ∧ p.1 ≤ 0) (hg : J p g) (h : J p s) (he : Em g s) : gT (f_197 217 a1 a2 a3 a4 a5 a6 a7 s) (fun r => r.1 = 1 ∧ r.2.1 = tv g a1 a2 a3 a4 a5 a6 a7 ∧ J p r.2.2.2 ∧ Em g r.2.2.2 ∧ ∀ k, gI r.2.2.2 228 k = gI s 228 k) := by
  obtain ⟨r0, e0, -⟩ := d_197 (a1 := a1) (a2 := a2) (a3 := a3) (a4 := a4) (a5 := a5) (a6 := a6) (a7 := a7) hp hg t12
  obtain ⟨r, e, h1, -, h2⟩ := d_197 (a1 := a1) (a2 := a2) (a3 := a3) (a4 := a4) (a5 := a5) (a6 := a6) (a7 := a7) hp h t12
  have q := v_197 (Em_r hg) he r0 r e0 e
  refine ⟨r, e, h1, ?_, h2, q.2.2.2, fun k => (q_197 (Eg_rf he) r e).2.2 228 k (sc_lo (by decide) (by decide))⟩
  unfold tv
  rw [e0]
  exact q.2.1
theorem e_151 {x y : Int} : gT (f_151 x y s) (fun r => r.1 = 1 ∧ r.2.1 = min x y ∧ r.2.2.2 = s) := by
  unfold f_151
  exact gT_ite (fun _ => gT_ret ⟨rfl, by dsimp only; omega, rfl⟩) (fun _ => gT_ret ⟨rfl, by dsimp only; omega, rfl⟩)
theorem e_152 {x y : Int} : gT (f_152 x y s) (fun r => r.1 = 1 ∧ r.2.1 = max x y ∧ r.2.2.2 = s) := by
  unfold f_152
  exact gT_ite (fun _ => gT_ret ⟨rfl, by dsimp only; omega, rfl⟩) (fun _ => gT_ret ⟨rfl, by dsimp only; omega, rfl⟩)
/-- trust behind day k -/
noncomputable def bv (g : gS) (x k t n : Int) : Int := max 0 (min 99 (g32 (min 99 (g32 (t + gI g 227 k.toNat)) + tv g x (min 99 (g32 (t + gI g 227 k.toNat))) n (gI g 225 k.toNat) (gI g 226 k.toNat) (gI g 224 k.toNat) (min 9999 (g32 (gI g 218 7 + k))))))
theorem r_on (h : J p g) : gR g 217 18 = 224 ∧ gR g 217 19 = 225 ∧ gR g 217 20 = 226 ∧ gR g 217 21 = 227 ∧ gR g 217 22 = 228 := ⟨J_r h rfl (by decide +kernel) (by decide +kernel), J_r h rfl (by decide +kernel) (by decide +kernel), J_r h rfl (by decide +kernel) (by decide +kernel), J_r h rfl (by decide +kernel) (by decide +kernel), J_r h rfl (by decide +kernel) (by decide +kernel)⟩
theorem w_228 {x k t n : Int} (hp : -1 ≤ p.1 ∧ p.1 ≤ 0) (hg : J p g) (h : J p s) (he : Em g s) (hk : 0 ≤ k ∧ k ≤ 29) : gT (f_228 217 x k t n s) (fun r => r.1 = 1 ∧ r.2.1 = bv g x k t n ∧ J p r.2.2.2 ∧ Em g r.2.2.2 ∧ ∀ k, gI r.2.2.2 228 k = gI s 228 k) := by
  obtain ⟨q8, q9, q20, q21, -⟩ := r_on hg
  unfold f_228
  have sc : ∀ {r k : Nat}, 224 ≤ r → r ≤ 227 → scb r k = false := fun h1 h2 => sc_lo (by omega) (by omega)
  rw [Em_x he q21 _ (by decide) (sc (by decide) (by decide))]
  refine gT_chk (by omega) (by omega) ?_
  refine gT_v1 (A := fun v z => v = min 99 (g32 (t + gI g 227 k.toNat)) ∧ z = s) e_151 (fun v2 s1 h1 => ?_)
  obtain ⟨e2, e1⟩ := h1
  subst e1
  rw [Em_x he q9 _ (by decide) (sc (by decide) (by decide)), Em_x he q20 _ (by decide) (sc (by decide) (by decide)), Em_x he q8 _ (by decide) (sc (by decide) (by decide)), Em_m he 7]
  refine gT_chk (by omega) (by omega) (gT_chk (by omega) (by omega) (gT_chk (by omega) (by omega) ?_))
  refine gT_v1 (A := fun v z => v = min 9999 (g32 (gI g 218 7 + k)) ∧ z = s1) e_151 (fun v4 s3 h3 => ?_)
  obtain ⟨e4, e3⟩ := h3
  subst e3
  refine gT_v1 (A := fun v z => v = tv g x v2 n (gI g 225 k.toNat) (gI g 226 k.toNat) (gI g 224 k.toNat) v4 ∧ J p z ∧ Em g z ∧ ∀ k, gI z 228 k = gI s3 228 k) (w_197 hp hg h he) (fun v6 s5 h5 => ?_)
  obtain ⟨e6, j5, k5⟩ := h5
  refine gT_v1 (A := fun v z => v = min 99 (g32 (v2 + v6)) ∧ z = s5) e_151 (fun v8 s7 h7 => ?_)
  obtain ⟨e8, e7⟩ := h7
  subst e7
  refine gT_v1 (A := fun v z => v = max 0 v8 ∧ z = s7) e_152 (fun v10 s9 h9 => ?_)
  obtain ⟨e10, e9⟩ := h9
  subst e9
  refine gT_ret ⟨rfl, ?_, j5, k5⟩
  dsimp only
  unfold bv
  rw [e10, e8, e6, e4, e2]
theorem bv_r {x k t n : Int} : 0 ≤ bv g x k t n ∧ bv g x k t n ≤ 99 := by
  unfold bv
  omega
/-- the greatest of f 0 .. f (c - 1), and 0 -/
noncomputable def lW (f : Nat → Int) : Nat → Int
  | 0 => 0
  | c + 1 => max (lW f c) (f c)
theorem lW_ex {f : Nat → Int} (hf : ∀ c, 0 ≤ f c) (m : Nat) : ∃ c, c ≤ m ∧ f c = lW f (m + 1) := by
  induction m with
  | zero =>
    refine ⟨0, Nat.le_refl _, ?_⟩
    have := hf 0
    show f 0 = max 0 (f 0)
    omega
  | succ m ih =>
    obtain ⟨c, h1, h2⟩ := ih
    by_cases h : f (m + 1) ≤ lW f (m + 1)
    · refine ⟨c, by omega, ?_⟩
      show f c = max (lW f (m + 1)) (f (m + 1))
      omega
    · refine ⟨m + 1, Nat.le_refl _, ?_⟩
      show f (m + 1) = max (lW f (m + 1)) (f (m + 1))
      omega
theorem lW_b {f : Nat → Int} {B : Int} (hB : 0 ≤ B) (hf : ∀ c, f c ≤ B) (m : Nat) : 0 ≤ lW f m ∧ lW f m ≤ B := by
  induction m with
  | zero => exact ⟨Int.le_refl _, hB⟩
  | succ m ih =>
    have := hf m
    show 0 ≤ max (lW f m) (f m) ∧ max (lW f m) (f m) ≤ B
    omega
/-- days kept at most, j days before the end -/
noncomputable def lV (b : Int → Int → Int → Int) (bar P : Int) : Nat → Int → Int → Int
  | 0, _, _ => 0
  | j + 1, t, n => lW (fun u => if b (29 - j) (min 99 (t + P * u)) (n - u) < bar then 0 else 1 + lV b bar P j (b (29 - j) (min 99 (t + P * u)) (n - u)) (n - u)) (n.toNat + 1)
noncomputable def lU (b : Int → Int → Int → Int) (bar P : Int) (j : Nat) (t n u : Int) : Int := if b (29 - j) (min 99 (t + P * u)) (n - u) < bar then 0 else 1 + lV b bar P j (b (29 - j) (min 99 (t + P * u)) (n - u)) (n - u)
theorem lV_s {b : Int → Int → Int → Int} {bar P t n : Int} {j : Nat} : lV b bar P (j + 1) t n = lW (fun u => lU b bar P j t n u) (n.toNat + 1) := rfl
theorem lV_b {b : Int → Int → Int → Int} {bar P : Int} (j : Nat) : ∀ t n, 0 ≤ lV b bar P j t n ∧ lV b bar P j t n ≤ j := by
  induction j with
  | zero => intro t n; exact ⟨Int.le_refl _, Int.le_refl _⟩
  | succ j ih =>
    intro t n
    rw [lV_s]
    refine lW_b (by omega) (fun c => ?_) _
    unfold lU
    split
    · omega
    · have := ih (b (29 - j) (min 99 (t + P * c)) (n - c)) (n - c)
      omega
theorem lU_b {b : Int → Int → Int → Int} {bar P t n u : Int} {j : Nat} : 0 ≤ lU b bar P j t n u ∧ lU b bar P j t n u ≤ j + 1 := by
  unfold lU
  split
  · omega
  · have := lV_b (b := b) (bar := bar) (P := P) j (b (29 - j) (min 99 (t + P * u)) (n - u)) (n - u)
    omega
noncomputable def kV (g : gS) (x : Int) : Nat → Int → Int → Int := lV (bv g x) (gI g 218 10) (gI g 218 12)
noncomputable def kU (g : gS) (x : Int) : Nat → Int → Int → Int → Int := lU (bv g x) (gI g 218 10) (gI g 218 12)
/-- the memo is right -/
noncomputable def Mm (g : gS) (x : Int) (s : gS) : Prop := ∀ (j : Nat) (t n : Int), 1 ≤ j → j ≤ 30 → 0 ≤ t ∧ t ≤ 99 → 0 ≤ n ∧ n ≤ 9 → gI s 228 (1000 * (30 - (j : Int)) + 10 * t + n).toNat = -1 ∨ gI s 228 (1000 * (30 - (j : Int)) + 10 * t + n).toNat = kV g x j t n
noncomputable def Iv (p : gP) (g : gS) (x : Int) (s : gS) : Prop := J p s ∧ Em g s ∧ Mm g x s
theorem Mm_eg {x : Int} (h : Mm g x s) (hk : ∀ k, gI s' 228 k = gI s 228 k) : Mm g x s' := fun j t n h1 h2 h3 h4 => by rw [hk]; exact h j t n h1 h2 h3 h4
end Tu

end
section
section Me
variable {p : gP} {g s s' : gS} {x : Int}
theorem Iv_m (h : Iv p g x s) (hj : J p s') (he : Em g s') (hk : ∀ k, gI s' 228 k = gI s 228 k) : Iv p g x s' := ⟨hj, he, Mm_eg h.2.2 hk⟩
theorem Em_8 {k : Nat} {v : Int} (h : Em g s) : Em g (gw s 228 k v) := by
  refine ⟨h.1, h.2.1, fun b j h8 hb => ?_⟩
  show (if b = 228 ∧ j = k then v else gI s b j) = _
  rw [if_neg (fun e => h8 e.1)]
  exact h.2.2 b j h8 hb
theorem y_227 {R : Nat → Int → Int → Int → Int → gS → Option gO} {i : Nat} {t n u : Int} (hp : -1 ≤ p.1 ∧ p.1 ≤ 0) (hg : J p g) (hi : i ≤ 29) (ht : 0 ≤ t ∧ t ≤ 99) (hn : 0 ≤ n ∧ n ≤ 9) (hu : 0 ≤ u ∧ u ≤ n) (hR : ∀ {t n : Int} {s : gS}, 0 ≤ t ∧ t ≤ 99 → 0 ≤ n ∧ n ≤ 9 → Iv p g x s → gT (R 217 x (30 - (i : Int)) t n s) (fun r => r.1 = 1 ∧ r.2.1 = kV g x i t n ∧ Iv p g x r.2.2.2)) (h : Iv p g x s) : gT (fo_227 R 217 x (29 - (i : Int)) t n u s) (fun r => r.1 = 1 ∧ r.2.1 = kU g x i t n u ∧ Iv p g x r.2.2.2) := by
  have bP := m_rd (k := 12) hg rfl
  unfold fo_227
  rw [Em_m h.2.1 12]
  unfold kU
  generalize hP : gI g 218 12 = P at bP
  have b1 : 0 ≤ P * u := Int.mul_nonneg bP.1 hu.1
  have b2 : P * u ≤ 50 * 9 := Int.mul_le_mul (by omega) (by omega) hu.1 (by decide)
  have g1 := g32_eq (v := P * u) (by omega) (by omega)
  have g2 := g32_eq (v := t + P * u) (by omega) (by omega)
  have g3 := g32_eq (v := n - u) (by omega) (by omega)
  have g4 := g32_eq (v := 29 - (i : Int) + 1) (by omega) (by omega)
  rw [g1, g2, g3, g4]
  refine gT_v1 (A := fun v z => v = min 99 (t + P * u) ∧ z = s) e_151 (fun v2 s1 h1 => ?_)
  obtain ⟨e2, e1⟩ := h1
  subst e1
  refine gT_v1 (A := fun v z => v = bv g x (29 - (i : Int)) v2 (n - u) ∧ J p z ∧ Em g z ∧ ∀ k, gI z 228 k = gI s1 228 k) (w_228 hp hg h.1 h.2.1 (by omega)) (fun v4 s3 h3 => ?_)
  obtain ⟨e4, j3, m3, k3⟩ := h3
  have i3 := Iv_m h j3 m3 k3
  rw [Em_m m3 10]
  have rb := bv_r (g := g) (x := x) (k := 29 - (i : Int)) (t := v2) (n := n - u)
  rw [← e4] at rb
  refine gT_ite (fun hb => gT_ret ⟨rfl, ?_, i3⟩) (fun hb => ?_)
  · dsimp only
    unfold lU
    rw [← e2, ← e4, if_pos hb]
  rw [show 29 - (i : Int) + 1 = 30 - (i : Int) by omega]
  refine gT_v1 (A := fun v z => v = kV g x i v4 (n - u) ∧ Iv p g x z) (hR rb (by omega) i3) (fun v6 s5 h5 => ?_)
  refine gT_ret ⟨rfl, ?_, h5.2⟩
  have q := lV_b (b := bv g x) (bar := gI g 218 10) (P := gI g 218 12) i v4 (n - u)
  have e6 := h5.1
  unfold kV at e6
  rw [hP] at e6 q
  rw [← e6] at q
  have g5 := g32_eq (v := 1 + v6) (by omega) (by omega)
  dsimp only
  unfold lU
  rw [← e2, ← e4, if_neg hb, g5, e6]
theorem dg_226 {i j' : Nat} {t n t' n' v : Int} (hv : v = 1000 * (29 - (i : Int)) + 10 * t + n) (hi : i ≤ 29) (ht : 0 ≤ t ∧ t ≤ 99) (hn : 0 ≤ n ∧ n ≤ 9) (h1 : 1 ≤ j') (h2 : j' ≤ 30) (h3 : 0 ≤ t' ∧ t' ≤ 99) (h4 : 0 ≤ n' ∧ n' ≤ 9) (e : (1000 * (30 - (j' : Int)) + 10 * t' + n').toNat = v.toNat) : j' = i + 1 ∧ t' = t ∧ n' = n := by
  have e2 : 1000 * (30 - (j' : Int)) + 10 * t' + n' = 1000 * (29 - (i : Int)) + 10 * t + n := by
    have a1 : 0 ≤ 1000 * (30 - (j' : Int)) + 10 * t' + n' := by omega
    have a2 : 0 ≤ v := by omega
    rw [← hv]
    omega
  clear e hv
  have e3 : (j' : Int) = i + 1 := by omega
  have e4 : 10 * t' + n' = 10 * t + n := by omega
  clear e2
  refine ⟨by omega, by omega, by omega⟩
theorem y_226 {R : Nat → Int → Int → Int → Int → Int → gS → Option gO} {i : Nat} {t n : Int} (hi : i ≤ 29) (ht : 0 ≤ t ∧ t ≤ 99) (hn : 0 ≤ n ∧ n ≤ 9) (hR : ∀ {u : Int} {s : gS}, 0 ≤ u ∧ u ≤ n → Iv p g x s → gT (R 217 x (29 - (i : Int)) t n u s) (fun r => r.1 = 1 ∧ r.2.1 = kU g x i t n u ∧ Iv p g x r.2.2.2)) (h : Iv p g x s) : gT (fo_226 R 217 x (29 - (i : Int)) t n s) (fun r => r.1 = 1 ∧ r.2.1 = kV g x (i + 1) t n ∧ Iv p g x r.2.2.2) := by
  unfold fo_226
  refine gT_ite (fun e => by omega) (fun _ => ?_)
  have g1 := g32_eq (v := 1000 * (29 - (i : Int))) (by omega) (by omega)
  have g2 := g32_eq (v := 10 * t) (by omega) (by omega)
  have g3 := g32_eq (v := 1000 * (29 - (i : Int)) + 10 * t) (by omega) (by omega)
  have g4 := g32_eq (v := 1000 * (29 - (i : Int)) + 10 * t + n) (by omega) (by omega)
  rw [g1, g2, g3, g4]
  extract_lets v1
  have hv1 : v1 = 1000 * (29 - (i : Int)) + 10 * t + n := rfl
  clear_value v1
  have hme := h.2.2 (i + 1) t n (by omega) (by omega) ht hn
  rw [show (1000 * (30 - ((i + 1 : Nat) : Int)) + 10 * t + n) = v1 by omega] at hme
  have r22 : ∀ {z : gS}, Em g z → gR z 217 22 = 228 := fun hz => (Em_R hz 217 22).trans hz.2.1.2.2.2
  rw [r22 h.2.1]
  refine gT_chk (by omega) (by omega) ?_
  refine gT_ite (fun hm => ?_) (fun hm => gT_chk (by omega) (by omega) (gT_ret ⟨rfl, hme.resolve_left hm, h⟩))
  refine gT_loop (fun y => (y.1 = 217 ∧ y.2.1 = x ∧ y.2.2.1 = 29 - (i : Int) ∧ y.2.2.2.1 = t ∧ y.2.2.2.2.1 = n ∧ y.2.2.2.2.2.1 = v1) ∧ (∃ c : Nat, c ≤ n.toNat + 1 ∧ y.2.2.2.2.2.2.2.1 = (c : Int) ∧ y.2.2.2.2.2.2.1 = lW (fun u => kU g x i t n u) c) ∧ Iv p g x y.2.2.2.2.2.2.2.2) (fun y => (n + 1 - y.2.2.2.2.2.2.2.1).toNat) (fun y hy => ?_) ⟨⟨rfl, rfl, rfl, rfl, rfl, rfl⟩, ⟨0, by omega, rfl, rfl⟩, h⟩
  obtain ⟨x0, x1, x2, x3, x4, x5, x6, x7, z⟩ := y
  obtain ⟨⟨q0, q1, q2, q3, q4, q5⟩, ⟨c, hc, q7, q6⟩, hz⟩ := hy
  dsimp only at q0 q1 q2 q3 q4 q5 q6 q7 hz
  subst q0 q1 q2 q3 q4 q5
  show gT (sb_226_48 R 217 x1 (29 - (i : Int)) x3 x4 x5 x6 x7 z) _
  unfold sb_226_48
  rw [r22 hz.2.1]
  refine gT_ite (fun hx => gT_map ?_) (fun hx => ?_)
  · refine gT_chk (by omega) (by omega) ?_
    extract_lets s2
    have ec : c = x4.toNat + 1 := by omega
    have e6 : x6 = kV g x1 (i + 1) x3 x4 := by
      rw [q6, ec]
      rfl
    have j2 : J p s2 := by
      have := J_wa (k := x5.toNat) (v := x6) hz.1 (T_f (i := 22) hz.1 t12 (by decide) rfl rfl) rfl
      rw [r22 hz.2.1] at this
      exact this
    refine gT_ret ⟨rfl, e6, j2, Em_8 hz.2.1, fun j' t' n' h1 h2 h3 h4 => ?_⟩
    by_cases e : (1000 * (30 - (j' : Int)) + 10 * t' + n').toNat = x5.toNat
    · obtain ⟨ej, et, en⟩ := dg_226 hv1 hi ht hn h1 h2 h3 h4 e
      subst ej et en
      right
      rw [e]
      exact (rd_same (show s2 = gw z 228 x5.toNat x6 from rfl)).trans e6
    · have := rd_k (a := 228) (k := (1000 * (30 - (j' : Int)) + 10 * t' + n').toNat) (show s2 = gw z 228 x5.toNat x6 from rfl) e
      dsimp only
      rw [this]
      exact hz.2.2 j' t' n' h1 h2 h3 h4
  · refine gT_v1 (A := fun v y => v = kU g x1 i x3 x4 x7 ∧ Iv p g x1 y) (hR (by omega) hz) (fun v4 s3 h3 => ?_)
    refine gT_v1 (A := fun v y => v = max x6 v4 ∧ y = s3) e_152 (fun v6 s5 h5 => ?_)
    obtain ⟨e6, e5⟩ := h5
    subst e5
    have g5 := g32_eq (v := x7 + 1) (by omega) (by omega)
    refine gT_ret ⟨⟨⟨rfl, rfl, rfl, rfl, rfl, rfl⟩, ⟨c + 1, by omega, by dsimp only; omega, ?_⟩, h3.2⟩, by dsimp only; omega⟩
    dsimp only
    rw [e6, q6, h3.1, q7]
    rfl
theorem y_rg (hp : -1 ≤ p.1 ∧ p.1 ≤ 0) (hg : J p g) (m : Nat) : (∀ {i : Nat} {t n : Int} {s : gS}, i ≤ 30 → 0 ≤ t ∧ t ≤ 99 → 0 ≤ n ∧ n ≤ 9 → 2 * i + 1 ≤ m → Iv p g x s → gT (fn_226 m 217 x (30 - (i : Int)) t n s) (fun r => r.1 = 1 ∧ r.2.1 = kV g x i t n ∧ Iv p g x r.2.2.2)) ∧ (∀ {i : Nat} {t n u : Int} {s : gS}, i ≤ 29 → 0 ≤ t ∧ t ≤ 99 → 0 ≤ n ∧ n ≤ 9 → 0 ≤ u ∧ u ≤ n → 2 * i + 2 ≤ m → Iv p g x s → gT (fn_227 m 217 x (29 - (i : Int)) t n u s) (fun r => r.1 = 1 ∧ r.2.1 = kU g x i t n u ∧ Iv p g x r.2.2.2)) := by
  induction m with
  | zero => exact ⟨fun _ _ _ e => by omega, fun _ _ _ _ e => by omega⟩
  | succ m ih =>
    refine ⟨fun {i t n s} hi ht hn hm h => ?_, fun {i t n u s} hi ht hn hu hm h => ?_⟩
    · cases i with
      | zero =>
        show gT (fo_226 (fn_227 m) 217 x 30 t n s) _
        unfold fo_226
        exact gT_ite (fun _ => gT_ret ⟨rfl, rfl, h⟩) (fun e => absurd rfl e)
      | succ i =>
        rw [show (30 : Int) - ((i + 1 : Nat) : Int) = 29 - (i : Int) by omega]
        exact y_226 (R := fn_227 m) (by omega) ht hn (fun hu h => ih.2 (by omega) ht hn hu (by omega) h) h
    · exact y_227 (R := fn_226 m) hp hg hi ht hn hu (fun ht hn h => ih.1 (by omega) ht hn (by omega) h) h
theorem z_226 {k t n : Int} (hp : -1 ≤ p.1 ∧ p.1 ≤ 0) (hg : J p g) (hk : 0 ≤ k ∧ k ≤ 30) (ht : 0 ≤ t ∧ t ≤ 99) (hn : 0 ≤ n ∧ n ≤ 9) (h : Iv p g x s) : gT (f_226 217 x k t n s) (fun r => r.1 = 1 ∧ r.2.1 = kV g x (30 - k).toNat t n ∧ Iv p g x r.2.2.2) := by
  have := (y_rg (x := x) hp hg 64).1 (i := (30 - k).toNat) (t := t) (n := n) (s := s) (by omega) ht hn (by omega) h
  rw [show 30 - (((30 - k).toNat : Nat) : Int) = k by omega] at this
  exact this
theorem z_227 {k t n u : Int} (hp : -1 ≤ p.1 ∧ p.1 ≤ 0) (hg : J p g) (hk : 0 ≤ k ∧ k ≤ 29) (ht : 0 ≤ t ∧ t ≤ 99) (hn : 0 ≤ n ∧ n ≤ 9) (hu : 0 ≤ u ∧ u ≤ n) (h : Iv p g x s) : gT (f_227 217 x k t n u s) (fun r => r.1 = 1 ∧ r.2.1 = kU g x (29 - k).toNat t n u ∧ Iv p g x r.2.2.2) := by
  have := (y_rg (x := x) hp hg 64).2 (i := (29 - k).toNat) (t := t) (n := n) (u := u) (s := s) (by omega) ht hn hu (by omega) h
  rw [show 29 - (((29 - k).toNat : Nat) : Int) = k by omega] at this
  exact this
/-- some number of nails gives the most -/
theorem k_ex {i : Nat} {t n : Int} (hn : 0 ≤ n) : ∃ u : Int, 0 ≤ u ∧ u ≤ n ∧ kU g x i t n u = kV g x (i + 1) t n := by
  obtain ⟨c, h1, h2⟩ := lW_ex (f := fun u => kU g x i t n u) (fun c => lU_b.1) n.toNat
  exact ⟨c, by omega, by omega, h2⟩
end Me

end
section
theorem c_225 {p : gP} {a0 : Nat} {a1 : Int} {s : gS} (hp : -1 ≤ p.1 ∧ p.1 ≤ 0) (h : J p s) (t0 : T 12 a0) (r1 : 0 ≤ a1 ∧ a1 ≤ 5) : gT (f_225 a0 a1 s) (fun r => r.1 = 0 ∧ J p r.2.2.2 ∧ ∀ i : Nat, i < 31000 → gI r.2.2.2 228 i = -1) := by
  unfold f_225
  refine gT_v0 (A := fun u9 => J p u9) (d_185 hp h t0) (fun s1 h1 => ?_)
  have hJ2 := h1
  refine gT_loop (fun y => T 12 y.1 ∧ (0 ≤ y.2.1 ∧ y.2.1 ≤ 5) ∧ (0 ≤ y.2.2.1 ∧ y.2.2.1 ≤ 30) ∧ y.2.1 = a1 ∧ J p y.2.2.2) (fun y => (30 - y.2.2.1).toNat) (fun y hy => ?_) ?_
  · obtain ⟨x0, x1, x2, s⟩ := y
    obtain ⟨t3, r4, r5, e6, hJ7⟩ := hy
    dsimp only at t3 r4 r5 e6 hJ7
    show gT (sb_225_6 x0 x1 x2 s) _
    unfold sb_225_6
    extract_lets -merge s3
    refine gT_ite (fun h8 => ?_) (fun h9 => ?_)
    · refine gT_chk (by omega) (by omega) ?_
      have hJ10 : J p s3 := (J_wmo hJ7 hJ7 t3 (by decide))
      refine gT_v1 (A := fun w9 u9 => True ∧ J p u9) (d_202 hp hJ10 t3 (show (0 : Int) ≤ 1 ∧ 1 ≤ 200 by constructor <;> omega) (show (0 : Int) ≤ 0 ∧ 0 ≤ 1 by constructor <;> omega)) (fun v5 s4 h11 => ?_)
      obtain ⟨h11r, hJ12⟩ := h11
      exact gT_ret ⟨⟨t3, (show (0 : Int) ≤ x1 ∧ x1 ≤ 5 by constructor <;> omega), (show (0 : Int) ≤ (g32 (x2 + 1)) ∧ (g32 (x2 + 1)) ≤ 30 by have := g32_eq (v := (x2 + 1)) (by omega) (by omega); constructor <;> omega), (by first | assumption | omega | (dsimp only; omega)), hJ12⟩, by dsimp only; have := g32_eq (v := (x2 + 1)) (by omega) (by omega); omega⟩
    · refine gT_map ?_
      refine gT_v0 (A := fun u9 => J p u9) (d_186 hp hJ7 t3) (fun s6 h13 => ?_)
      have hJ14 := h13
      refine gT_v1 (A := fun w9 u9 => (0 ≤ w9 ∧ w9 ≤ 8) ∧ J p u9) (d_156_3 hp hJ14 t3 (show (0 : Int) ≤ x1 ∧ x1 ≤ 5 by constructor <;> omega)) (fun v9 s8 h15 => ?_)
      obtain ⟨h15r, hJ16⟩ := h15
      refine gT_v1 (A := fun w9 u9 => True ∧ J p u9) (d_156_4 hp hJ16 t3 (show (0 : Int) ≤ x1 ∧ x1 ≤ 5 by constructor <;> omega)) (fun v11 s10 h17 => ?_)
      obtain ⟨h17r, hJ18⟩ := h17
      refine gT_loop (fun y => T 12 y.1 ∧ (0 ≤ y.2.1 ∧ y.2.1 ≤ 8) ∧ (0 ≤ y.2.2.2.1 ∧ y.2.2.2.1 ≤ 30) ∧ J p y.2.2.2.2) (fun y => (30 - y.2.2.2.1).toNat) (fun y hy => ?_) ?_
      · obtain ⟨x0, x2, x3, x4, s⟩ := y
        obtain ⟨t19, r20, r21, hJ22⟩ := hy
        dsimp only at t19 r20 r21 hJ22
        show gT (sb_225_59 x0 x2 x3 x4 s) _
        unfold sb_225_59
        extract_lets -merge s12
        refine gT_ite (fun h23 => ?_) (fun h24 => ?_)
        · refine gT_chk (by omega) (by omega) ?_
          have hJ25 : J p s12 := (J_wmo hJ22 hJ22 t19 (by decide))
          refine gT_ite (fun h26 => ?_) (fun h27 => ?_)
          · have := rd_T (a := (gR s12 x0 1)) (k := 3) (show s12 = (gw s (gR s x0 21) (x4 : Int).toNat 0) from rfl) (T_f (i := 1) hJ25 t19 (by decide) rfl rfl) (T_f (i := 21) hJ22 t19 (by decide) rfl rfl) (by decide)
            have := J_m (k := 3) hJ22 hJ25 t19 rfl
            unfold fb_225_90
            refine gT_ite (fun h28 => ?_) (fun h29 => ?_)
            · have := rd_T (a := (gR s12 x0 1)) (k := 3) (show s12 = (gw s (gR s x0 21) (x4 : Int).toNat 0) from rfl) (T_f (i := 1) hJ25 t19 (by decide) rfl rfl) (T_f (i := 21) hJ22 t19 (by decide) rfl rfl) (by decide)
              have := J_m (k := 3) hJ22 hJ25 t19 rfl
              refine gT_v1 (A := fun w9 u9 => True ∧ J p u9) (d_155 hp hJ25 t19 (show (0 : Int) ≤ x2 ∧ x2 ≤ 8 by constructor <;> omega) (show (0 : Int) ≤ 0 ∧ 0 ≤ 2 by constructor <;> omega)) (fun v14 s13 h30 => ?_)
              obtain ⟨h30r, hJ31⟩ := h30
              refine gT_ite (fun h32 => ?_) (fun h33 => ?_)
              · unfold fb_225_130
                extract_lets -merge s15 s16
                refine gT_chk (by omega) (by omega) ?_
                have hJ34 : J p s15 := (J_wmo hJ31 hJ31 t19 (by decide))
                refine gT_chk (by omega) (by omega) ?_
                have hJ35 : J p s16 := (J_wmo hJ34 hJ34 t19 (by decide))
                exact gT_ret ⟨⟨t19, (show (0 : Int) ≤ x2 ∧ x2 ≤ 8 by constructor <;> omega), (show (0 : Int) ≤ (g32 (x4 + 1)) ∧ (g32 (x4 + 1)) ≤ 30 by have := g32_eq (v := (x4 + 1)) (by omega) (by omega); constructor <;> omega), hJ35⟩, by dsimp only; have := g32_eq (v := (x4 + 1)) (by omega) (by omega); omega⟩
              · refine gT_v1 (A := fun w9 u9 => (0 ≤ w9 ∧ w9 ≤ 50) ∧ J p u9) (d_155_2 hp hJ31 t19 (show (0 : Int) ≤ x2 ∧ x2 ≤ 7 by constructor <;> omega)) (fun v18 s17 h36 => ?_)
                obtain ⟨h36r, hJ37⟩ := h36
                extract_lets -merge s19
                refine gT_chk (by omega) (by omega) ?_
                have hJ38 : J p s19 := (J_wmo hJ37 hJ31 t19 (by decide))
                unfold fb_225_130
                extract_lets -merge s15 s16
                refine gT_chk (by omega) (by omega) ?_
                have hJ39 : J p s15 := (J_wmo hJ38 hJ38 t19 (by decide))
                refine gT_chk (by omega) (by omega) ?_
                have hJ40 : J p s16 := (J_wmo hJ39 hJ39 t19 (by decide))
                exact gT_ret ⟨⟨t19, (show (0 : Int) ≤ (g32 (x2 + 1)) ∧ (g32 (x2 + 1)) ≤ 8 by have := g32_eq (v := (x2 + 1)) (by omega) (by omega); constructor <;> omega), (show (0 : Int) ≤ (g32 (x4 + 1)) ∧ (g32 (x4 + 1)) ≤ 30 by have := g32_eq (v := (x4 + 1)) (by omega) (by omega); constructor <;> omega), hJ40⟩, by dsimp only; have := g32_eq (v := (x4 + 1)) (by omega) (by omega); omega⟩
            · have := rd_T (a := (gR s12 x0 1)) (k := 3) (show s12 = (gw s (gR s x0 21) (x4 : Int).toNat 0) from rfl) (T_f (i := 1) hJ25 t19 (by decide) rfl rfl) (T_f (i := 21) hJ22 t19 (by decide) rfl rfl) (by decide)
              have := J_m (k := 3) hJ22 hJ25 t19 rfl
              unfold fb_225_130
              extract_lets -merge s15 s16
              refine gT_chk (by omega) (by omega) ?_
              have hJ41 : J p s15 := (J_wmo hJ25 hJ25 t19 (by decide))
              refine gT_chk (by omega) (by omega) ?_
              have hJ42 : J p s16 := (J_wmo hJ41 hJ41 t19 (by decide))
              exact gT_ret ⟨⟨t19, (show (0 : Int) ≤ x2 ∧ x2 ≤ 8 by constructor <;> omega), (show (0 : Int) ≤ (g32 (x4 + 1)) ∧ (g32 (x4 + 1)) ≤ 30 by have := g32_eq (v := (x4 + 1)) (by omega) (by omega); constructor <;> omega), hJ42⟩, by dsimp only; have := g32_eq (v := (x4 + 1)) (by omega) (by omega); omega⟩
          · have := rd_T (a := (gR s12 x0 1)) (k := 3) (show s12 = (gw s (gR s x0 21) (x4 : Int).toNat 0) from rfl) (T_f (i := 1) hJ25 t19 (by decide) rfl rfl) (T_f (i := 21) hJ22 t19 (by decide) rfl rfl) (by decide)
            have := J_m (k := 3) hJ22 hJ25 t19 rfl
            unfold fb_225_90
            refine gT_ite (fun h43 => ?_) (fun h44 => ?_)
            · have := rd_T (a := (gR s12 x0 1)) (k := 3) (show s12 = (gw s (gR s x0 21) (x4 : Int).toNat 0) from rfl) (T_f (i := 1) hJ25 t19 (by decide) rfl rfl) (T_f (i := 21) hJ22 t19 (by decide) rfl rfl) (by decide)
              have := J_m (k := 3) hJ22 hJ25 t19 rfl
              refine gT_v1 (A := fun w9 u9 => True ∧ J p u9) (d_155 hp hJ25 t19 (show (0 : Int) ≤ x2 ∧ x2 ≤ 8 by constructor <;> omega) (show (0 : Int) ≤ 0 ∧ 0 ≤ 2 by constructor <;> omega)) (fun v14 s13 h45 => ?_)
              obtain ⟨h45r, hJ46⟩ := h45
              refine gT_ite (fun h47 => ?_) (fun h48 => ?_)
              · unfold fb_225_130
                extract_lets -merge s15 s16
                refine gT_chk (by omega) (by omega) ?_
                have hJ49 : J p s15 := (J_wmo hJ46 hJ46 t19 (by decide))
                refine gT_chk (by omega) (by omega) ?_
                have hJ50 : J p s16 := (J_wmo hJ49 hJ49 t19 (by decide))
                exact gT_ret ⟨⟨t19, (show (0 : Int) ≤ x2 ∧ x2 ≤ 8 by constructor <;> omega), (show (0 : Int) ≤ (g32 (x4 + 1)) ∧ (g32 (x4 + 1)) ≤ 30 by have := g32_eq (v := (x4 + 1)) (by omega) (by omega); constructor <;> omega), hJ50⟩, by dsimp only; have := g32_eq (v := (x4 + 1)) (by omega) (by omega); omega⟩
              · refine gT_v1 (A := fun w9 u9 => (0 ≤ w9 ∧ w9 ≤ 50) ∧ J p u9) (d_155_2 hp hJ46 t19 (show (0 : Int) ≤ x2 ∧ x2 ≤ 7 by constructor <;> omega)) (fun v18 s17 h51 => ?_)
                obtain ⟨h51r, hJ52⟩ := h51
                extract_lets -merge s19
                refine gT_chk (by omega) (by omega) ?_
                have hJ53 : J p s19 := (J_wmo hJ52 hJ46 t19 (by decide))
                unfold fb_225_130
                extract_lets -merge s15 s16
                refine gT_chk (by omega) (by omega) ?_
                have hJ54 : J p s15 := (J_wmo hJ53 hJ53 t19 (by decide))
                refine gT_chk (by omega) (by omega) ?_
                have hJ55 : J p s16 := (J_wmo hJ54 hJ54 t19 (by decide))
                exact gT_ret ⟨⟨t19, (show (0 : Int) ≤ (g32 (x2 + 1)) ∧ (g32 (x2 + 1)) ≤ 8 by have := g32_eq (v := (x2 + 1)) (by omega) (by omega); constructor <;> omega), (show (0 : Int) ≤ (g32 (x4 + 1)) ∧ (g32 (x4 + 1)) ≤ 30 by have := g32_eq (v := (x4 + 1)) (by omega) (by omega); constructor <;> omega), hJ55⟩, by dsimp only; have := g32_eq (v := (x4 + 1)) (by omega) (by omega); omega⟩
            · have := rd_T (a := (gR s12 x0 1)) (k := 3) (show s12 = (gw s (gR s x0 21) (x4 : Int).toNat 0) from rfl) (T_f (i := 1) hJ25 t19 (by decide) rfl rfl) (T_f (i := 21) hJ22 t19 (by decide) rfl rfl) (by decide)
              have := J_m (k := 3) hJ22 hJ25 t19 rfl
              unfold fb_225_130
              extract_lets -merge s15 s16
              refine gT_chk (by omega) (by omega) ?_
              have hJ56 : J p s15 := (J_wmo hJ25 hJ25 t19 (by decide))
              refine gT_chk (by omega) (by omega) ?_
              have hJ57 : J p s16 := (J_wmo hJ56 hJ56 t19 (by decide))
              exact gT_ret ⟨⟨t19, (show (0 : Int) ≤ x2 ∧ x2 ≤ 8 by constructor <;> omega), (show (0 : Int) ≤ (g32 (x4 + 1)) ∧ (g32 (x4 + 1)) ≤ 30 by have := g32_eq (v := (x4 + 1)) (by omega) (by omega); constructor <;> omega), hJ57⟩, by dsimp only; have := g32_eq (v := (x4 + 1)) (by omega) (by omega); omega⟩
        · refine gT_map ?_
          refine gT_loop (fun y => T 12 y.1 ∧ (0 ≤ y.2.1 ∧ y.2.1 ≤ 31000) ∧ J p y.2.2 ∧ ∀ i : Nat, (i : Int) < y.2.1 → gI y.2.2 228 i = -1) (fun y => (31000 - y.2.1).toNat) (fun y hy => ?_) ?_
          · obtain ⟨x0, x4, s⟩ := y
            obtain ⟨t58, r59, hJ60, hm⟩ := hy
            dsimp only at t58 r59 hJ60 hm
            show gT (sb_225_155 x0 x4 s) _
            unfold sb_225_155
            extract_lets -merge s20
            refine gT_ite (fun h61 => ?_) (fun h62 => ?_)
            · refine gT_chk (by omega) (by omega) ?_
              have hJ63 : J p s20 := (J_wa hJ60 (T_f (i := 22) hJ60 t58 (by decide) rfl rfl) rfl)
              exact gT_ret ⟨⟨t58, (show (0 : Int) ≤ (g32 (x4 + 1)) ∧ (g32 (x4 + 1)) ≤ 31000 by have := g32_eq (v := (x4 + 1)) (by omega) (by omega); constructor <;> omega), hJ63, fun i hi => by
                dsimp only at hi
                have hg := g32_eq (v := (x4 + 1)) (by omega) (by omega)
                have e20 : s20 = gw s 228 x4.toNat (-1) := by
                  show gw s (gR s x0 22) _ _ = _
                  rw [T_12 t58, (r_on hJ60).2.2.2.2]
                dsimp only
                by_cases e : i = x4.toNat
                · rw [e]; exact rd_same e20
                · rw [rd_k (a := 228) (k := i) e20 e]; exact hm i (by omega)⟩, by dsimp only; have := g32_eq (v := (x4 + 1)) (by omega) (by omega); omega⟩
            · refine gT_map ?_
              exact gT_ret ⟨rfl, hJ60, fun i hi => hm i (by omega)⟩
          · exact ⟨t19, (show (0 : Int) ≤ 0 ∧ 0 ≤ 31000 by constructor <;> omega), hJ22, fun i hi => by dsimp only at hi; omega⟩
      · exact ⟨t3, (show (0 : Int) ≤ v9 ∧ v9 ≤ 8 by constructor <;> omega), (show (0 : Int) ≤ 0 ∧ 0 ≤ 30 by constructor <;> omega), hJ18⟩
  · exact ⟨t0, (show (0 : Int) ≤ a1 ∧ a1 ≤ 5 by constructor <;> omega), (show (0 : Int) ≤ 0 ∧ 0 ≤ 30 by constructor <;> omega), rfl, hJ2⟩
section Lo
variable {p : gP} {g s : gS} {a0 : Nat} {x : Int}
theorem Iv_0 (h : J p s) (hm : ∀ i : Nat, i < 31000 → gI s 228 i = -1) : Iv p s x s := ⟨h, Em_r h, fun j t n h1 h2 h3 h4 => Or.inl (hm _ (by omega))⟩
theorem l229_a {a2 : Int} (hp : -1 ≤ p.1 ∧ p.1 ≤ 0) (hg : J p g) (ha : 0 ≤ a2 ∧ a2 ≤ 29) {t n : Int} (ht : 0 ≤ t ∧ t ≤ 99) (hn : 0 ≤ n ∧ n ≤ 9) (h : Iv p g x s) : gT (gloop st_229_93 (217, x, a2, t, n, 0, s)) (fun r => r.1 = 1 ∧ True ∧ J p r.2.2.2) := by
  refine gT_loop (fun y => (y.1 = 217 ∧ y.2.1 = x ∧ y.2.2.1 = a2) ∧ (0 ≤ y.2.2.2.1 ∧ y.2.2.2.1 ≤ 99) ∧ (0 ≤ y.2.2.2.2.1 ∧ y.2.2.2.2.1 ≤ 9) ∧ (0 ≤ y.2.2.2.2.2.1 ∧ y.2.2.2.2.2.1 ≤ 30) ∧ Iv p g x y.2.2.2.2.2.2) (fun y => (30 - y.2.2.2.2.2.1).toNat) (fun y hy => ?_) ⟨⟨rfl, rfl, rfl⟩, ht, hn, by dsimp only; omega, h⟩
  obtain ⟨x0, x1, x2, x3, x4, x5, z⟩ := y
  obtain ⟨⟨q0, q1, q2⟩, r3, r4, r5, hz⟩ := hy
  dsimp only at q0 q1 q2 r3 r4 r5 hz
  subst q0 q1 q2
  show gT (sb_229_93 217 x1 x2 x3 x4 x5 z) _
  unfold sb_229_93
  refine gT_ite (fun _ => gT_map (gT_ret ⟨rfl, trivial, hz.1⟩)) (fun hx => ?_)
  have r5' : 0 ≤ x5 ∧ x5 ≤ 29 := by omega
  obtain ⟨u0, hu0, hu1, hu2⟩ := k_ex (g := g) (x := x1) (i := (29 - x5).toNat) (t := x3) (n := x4) r4.1
  rw [show (29 - x5).toNat + 1 = (30 - x5).toNat by omega] at hu2
  refine gT_loop (fun y => (y.1 = 217 ∧ y.2.1 = x1 ∧ y.2.2.1 = x2 ∧ y.2.2.2.1 = x3 ∧ y.2.2.2.2.1 = x4 ∧ y.2.2.2.2.2.1 = x5) ∧ (0 ≤ y.2.2.2.2.2.2.1 ∧ y.2.2.2.2.2.2.1 ≤ u0) ∧ Iv p g x1 y.2.2.2.2.2.2.2) (fun y => (u0 - y.2.2.2.2.2.2.1).toNat) (fun y hy => ?_) ⟨⟨rfl, rfl, rfl, rfl, rfl, rfl⟩, by dsimp only; omega, hz⟩
  obtain ⟨y0, y1, y2, y3, y4, y5, y6, w⟩ := y
  obtain ⟨⟨q0, q1, q2, q3, q4, q5⟩, r6, hw⟩ := hy
  dsimp only at q0 q1 q2 q3 q4 q5 r6 hw
  subst q0 q1 q2 q3 q4 q5
  show gT (sb_229_102 217 y1 y2 y3 y4 y5 y6 w) _
  unfold sb_229_102
  refine gT_v1 (A := fun v o => v = kU g y1 (29 - y5).toNat y3 y4 y6 ∧ Iv p g y1 o) (z_227 hp hg r5' r3 r4 (by omega) hw) (fun v17 s16 h16 => ?_)
  refine gT_v1 (A := fun v o => v = kV g y1 (30 - y5).toNat y3 y4 ∧ Iv p g y1 o) (z_226 hp hg (by omega) r3 r4 h16.2) (fun v19 s18 h18 => ?_)
  obtain ⟨e19, i18⟩ := h18
  have g6 := g32_eq (v := y6 + 1) (by omega) (by omega)
  refine gT_ite (fun _ => gT_map ?_) (fun hne => ?_)
  · refine gT_ite (fun _ => gT_map (gT_ret ⟨rfl, trivial, i18.1⟩)) (fun hk => ?_)
    refine gT_v1 (A := fun v o => o = s18) (gT_mono e_151 (fun r hr => ⟨hr.1, hr.2.2⟩)) (fun v21 s20 e20 => ?_)
    subst e20
    have g7 := g32_eq (v := y4 - y6) (by omega) (by omega)
    rw [g7]
    refine gT_v1 (A := fun v o => v = bv g y1 y5 v21 (y4 - y6) ∧ J p o ∧ Em g o ∧ ∀ k, gI o 228 k = gI s20 228 k) (w_228 hp hg i18.1 i18.2.1 r5') (fun v23 s22 h22 => ?_)
    obtain ⟨e23, j22, m22, k22⟩ := h22
    have rb := bv_r (g := g) (x := y1) (k := y5) (t := v21) (n := y4 - y6)
    rw [← e23] at rb
    have g8 := g32_eq (v := y5 + 1) (by omega) (by omega)
    refine gT_ite (fun _ => gT_map (gT_ret ⟨rfl, trivial, j22⟩)) (fun _ => ?_)
    exact gT_ret ⟨⟨⟨rfl, rfl, rfl⟩, rb, by dsimp only; omega, by dsimp only; omega, Iv_m i18 j22 m22 k22⟩, by dsimp only; omega⟩
  · have hlt : y6 < u0 := by
      by_cases e : y6 = u0
      · exfalso
        apply hne
        rw [h16.1, e19, e]
        exact hu2
      · omega
    exact gT_ret ⟨⟨⟨rfl, rfl, rfl, rfl, rfl, rfl⟩, by dsimp only; omega, i18⟩, by dsimp only; omega⟩
theorem d_229 {a1 a2 : Int} (hp : -1 ≤ p.1 ∧ p.1 ≤ 0) (h : J p s) (t0 : T 12 a0) : gT (f_229 a0 a1 a2 s) (fun r => r.1 = 1 ∧ True ∧ J p r.2.2.2) := by
  rw [T_12 t0]
  have hth : ∀ (w : Int) (z : gS), (0 < w ∨ (w = 0 ∧ (0 ≤ a1 ∧ a1 ≤ 5) ∧ (a2 = -1 ∨ (0 ≤ a2 ∧ a2 ≤ 29)))) → J p z → gT (fb_229_33 217 a1 a2 w 217 z) (fun r => r.1 = 1 ∧ True ∧ J p r.2.2.2) := by
    intro w z hw jz
    unfold fb_229_33
    extract_lets s4
    have j4 : J p s4 := J_wf jz t12 rfl (by decide) (by decide) (fun q hq => by cases hq)
    have e4 : gI s4 217 0 = w := rd_same (show s4 = gw z 217 0 w from rfl)
    refine gT_ite (fun _ => gT_ret ⟨rfl, trivial, j4⟩) (fun hn => ?_)
    have hw : (0 ≤ a1 ∧ a1 ≤ 5) ∧ (a2 = -1 ∨ (0 ≤ a2 ∧ a2 ≤ 29)) := by omega
    clear_value s4
    refine gT_v1 (A := fun v u => (0 ≤ v ∧ v ≤ 1) ∧ J p u) (d_165 hp j4 t12 hw.1) (fun v6 s5 h5 => ?_)
    refine gT_ite (fun _ => gT_ret ⟨rfl, trivial, h5.2⟩) (fun _ => ?_)
    refine gT_v0 (A := fun u => J p u ∧ ∀ i : Nat, i < 31000 → gI u 228 i = -1) (c_225 hp h5.2 t12 hw.1) (fun s8 h8 => ?_)
    have iv := Iv_0 (x := a1) h8.1 h8.2
    refine gT_v1 (A := fun v u => (0 ≤ v ∧ v ≤ 99) ∧ u = s8) (gT_mono (c_156 h8.1 t12 hw.1 (by decide)) (fun r hr => ⟨hr.1, hr.2.1.1 rfl, hr.2.2.2⟩)) (fun v11 s10 h10 => ?_)
    obtain ⟨r11, e10⟩ := h10
    subst e10
    refine gT_v1 (A := fun v u => (0 ≤ v ∧ v ≤ 9) ∧ u = s10) (gT_mono (c_156 h8.1 t12 hw.1 (by decide)) (fun r hr => ⟨hr.1, hr.2.1.2.1 rfl, hr.2.2.2⟩)) (fun v13 s12 h12 => ?_)
    obtain ⟨r13, e12⟩ := h12
    subst e12
    refine gT_ite (fun _ => ?_) (fun hk => ?_)
    · refine gT_v1 (A := fun v u => v = kV s12 a1 (30 - (0 : Int)).toNat v11 v13 ∧ Iv p s12 a1 u) (z_226 hp h8.1 (by decide) r11 r13 iv) (fun v15 s14 h14 => ?_)
      exact gT_ret ⟨rfl, trivial, h14.2.1⟩
    · exact l229_a hp h8.1 (by omega) r11 r13 iv
  unfold f_229
  refine gT_v1 (A := fun v u => (v = 1 → 0 ≤ a1 ∧ a1 ≤ 5) ∧ (0 ≤ v ∧ v ≤ 1) ∧ J p u) (d_162 hp h t12) (fun v2 s1 h1 => ?_)
  refine gT_ite (fun _ => hth _ _ (Or.inl (by decide)) h1.2.2) (fun hn => ?_)
  have r1 := h1.1 (by omega)
  refine gT_ite (fun hk => hth _ _ (Or.inr ⟨rfl, r1, Or.inl hk⟩) h1.2.2) (fun hk => ?_)
  refine gT_v1 (A := fun v u => ((v = 1 ∧ 0 ≤ a2 ∧ a2 ≤ 29) ∨ (v = 0 ∧ (a2 < 0 ∨ 29 < a2))) ∧ u = s1) e_150 (fun v25 s24 h24 => ?_)
  obtain ⟨r25, e24⟩ := h24
  subst e24
  exact gT_ite (fun _ => hth _ _ (Or.inl (by decide)) h1.2.2) (fun hn => hth _ _ (Or.inr ⟨rfl, r1, Or.inr (by omega)⟩) h1.2.2)
theorem d_230 {a1 a2 : Int} (hp : -1 ≤ p.1 ∧ p.1 ≤ 0) (h : J p s) (t0 : T 12 a0) : gT (f_230 a0 a1 a2 s) (fun r => r.1 = 1 ∧ True ∧ J p r.2.2.2) := by
  rw [T_12 t0]
  have hth : ∀ (w : Int) (z : gS), (0 < w ∨ (w = 0 ∧ (0 ≤ a1 ∧ a1 ≤ 5))) → J p z → gT (fb_230_28 217 a1 a2 w 217 z) (fun r => r.1 = 1 ∧ True ∧ J p r.2.2.2) := by
    intro w z hw jz
    unfold fb_230_28
    extract_lets s4
    have j4 : J p s4 := J_wf jz t12 rfl (by decide) (by decide) (fun q hq => by cases hq)
    have e4 : gI s4 217 0 = w := rd_same (show s4 = gw z 217 0 w from rfl)
    refine gT_ite (fun _ => gT_ret ⟨rfl, trivial, j4⟩) (fun hn => ?_)
    have hw : (0 ≤ a1 ∧ a1 ≤ 5) := by omega
    clear_value s4
    refine gT_v1 (A := fun v u => (0 ≤ v ∧ v ≤ 1) ∧ J p u) (d_165 hp j4 t12 hw) (fun v6 s5 h5 => ?_)
    refine gT_ite (fun _ => gT_ret ⟨rfl, trivial, h5.2⟩) (fun _ => ?_)
    refine gT_v0 (A := fun u => J p u ∧ ∀ i : Nat, i < 31000 → gI u 228 i = -1) (c_225 hp h5.2 t12 hw) (fun s8 h8 => ?_)
    have iv := Iv_0 (x := a1) h8.1 h8.2
    refine gT_loop (fun y => (y.1 = 217 ∧ y.2.1 = a1 ∧ y.2.2.1 = a2) ∧ (0 ≤ y.2.2.2.1 ∧ y.2.2.2.1 ≤ 10) ∧ Iv p s8 a1 y.2.2.2.2) (fun y => (10 - y.2.2.2.1).toNat) (fun y hy => ?_) ⟨⟨rfl, rfl, rfl⟩, by dsimp only; omega, iv⟩
    obtain ⟨x0, x1, x2, x3, u⟩ := y
    obtain ⟨⟨q0, q1, q2⟩, r3, iu⟩ := hy
    dsimp only at q0 q1 q2 r3 iu
    subst q0 q1 q2
    have g1 := g32_eq (v := x3 + 1) (by omega) (by omega)
    show gT (sb_230_57 217 x1 x2 x3 u) _
    unfold sb_230_57
    refine gT_ite (fun _ => gT_map (gT_ret ⟨rfl, trivial, iu.1⟩)) (fun _ => ?_)
    refine gT_v1 (A := fun v o => (0 ≤ v ∧ v ≤ 99) ∧ o = u) (gT_mono (c_156 iu.1 t12 hw (by decide)) (fun r hr => ⟨hr.1, hr.2.1.1 rfl, hr.2.2.2⟩)) (fun v11 s10 h10 => ?_)
    obtain ⟨r11, e10⟩ := h10
    subst e10
    refine gT_v1 (A := fun v o => v = kV s8 x1 (30 - (0 : Int)).toNat v11 x3 ∧ Iv p s8 x1 o) (z_226 hp h8.1 (by decide) r11 (by omega) iu) (fun v13 s12 h12 => ?_)
    exact gT_ite (fun _ => gT_ret ⟨⟨⟨rfl, rfl, rfl⟩, by dsimp only; omega, h12.2⟩, by dsimp only; omega⟩) (fun _ => gT_map (gT_ret ⟨rfl, trivial, h12.2.1⟩))
  unfold f_230
  refine gT_v1 (A := fun v u => (v = 1 → 0 ≤ a1 ∧ a1 ≤ 5) ∧ (0 ≤ v ∧ v ≤ 1) ∧ J p u) (d_162 hp h t12) (fun v2 s1 h1 => ?_)
  refine gT_ite (fun _ => hth _ _ (Or.inl (by decide)) h1.2.2) (fun hn => ?_)
  have r1 := h1.1 (by omega)
  refine gT_v1 (A := fun v u => ((v = 1 ∧ 1 ≤ a2 ∧ a2 ≤ 30) ∨ (v = 0 ∧ (a2 < 1 ∨ 30 < a2))) ∧ u = s1) e_150 (fun v25 s24 h24 => ?_)
  obtain ⟨r25, e24⟩ := h24
  subst e24
  exact gT_ite (fun _ => hth _ _ (Or.inl (by decide)) h1.2.2) (fun hn => hth _ _ (Or.inr ⟨rfl, r1⟩) h1.2.2)
end Lo

end
section
section So
variable {p : gP} {s s' : gS} {a0 : Nat}
theorem r_24 (h : J p s) : gR s 217 24 = 230 := J_r h rfl (by decide +kernel) (by decide +kernel)
theorem e_160 {r : Int} (h : J p s) (hr : 0 ≤ r ∧ r ≤ 5) : gT (f_160 217 r 0 s) (fun q => q.1 = 1 ∧ q.2.1 = gI s 218 (88 + 2 * r).toNat ∧ q.2.2.2 = s) := by
  have e1 := g32_eq (v := 2 * r) (by omega) (by omega)
  have e2 := g32_eq (v := 88 + 2 * r) (by omega) (by omega)
  have e3 := g32_eq (v := 88 + 2 * r + 0) (by omega) (by omega)
  unfold f_160
  rw [e1, e2, e3, r_m h t12]
  refine gT_chk (by omega) (by omega) (gT_ret ⟨rfl, ?_, rfl⟩)
  dsimp only
  rw [show 88 + 2 * r + 0 = 88 + 2 * r by omega]
/-- what a rival and those behind it give -/
noncomputable def gvv (s : gS) (r x men : Int) : Int := if x = -1 then gI s 230 (64 * (r + 1) + men).toNat else g32 (min (gI s 218 (88 + 2 * r).toNat) (g32 (3 * gI s 218 (40 + 6 * x.toNat + (0 : Int).toNat))) + gI s 230 (64 * (r + 1) + gand men (gxor (gshl 1 x) (-1))).toNat)
theorem e_246 {r x men : Int} (h : J p s) (hr : 0 ≤ r ∧ r ≤ 5) (hx : -1 ≤ x ∧ x ≤ 5) (hm : 0 ≤ men ∧ men ≤ 63) : gT (f_246 217 r x men s) (fun q => q.1 = 1 ∧ q.2.1 = gvv s r x men ∧ q.2.2.2 = s) := by
  have e1 := g32_eq (v := r + 1) (by omega) (by omega)
  have e2 := g32_eq (v := 64 * (r + 1)) (by omega) (by omega)
  have e3 := g32_eq (v := 64 * (r + 1) + men) (by omega) (by omega)
  have b := gand_le_l (x := men) (m := gxor (gshl 1 x) (-1)) hm.1 (by omega)
  have e4 := g32_eq (v := 64 * (r + 1) + gand men (gxor (gshl 1 x) (-1))) (by omega) (by omega)
  unfold f_246 gvv
  rw [e1, e2, e3, e4]
  refine gT_ite (fun hc => ?_) (fun hc => ?_)
  · rw [r_24 h, if_pos hc]
    exact gT_chk (by omega) (by omega) (gT_ret ⟨rfl, rfl, rfl⟩)
  · rw [if_neg hc]
    refine gT_v1 (A := fun v u => v = gI s 218 (88 + 2 * r).toNat ∧ u = s) (e_160 h hr) (fun v2 s1 h1 => ?_)
    obtain ⟨q2, q1⟩ := h1
    subst q1
    refine gT_v1 (A := fun v u => v = gI s1 218 (40 + 6 * x.toNat + (0 : Int).toNat) ∧ u = s1) (gT_mono (c_156 h t12 (by omega) (by decide)) (fun q hq => ⟨hq.1, hq.2.2⟩)) (fun v4 s3 h3 => ?_)
    obtain ⟨q4, q3⟩ := h3
    subst q3
    refine gT_v1 (A := fun v u => v = min v2 (g32 (3 * v4)) ∧ u = s3) e_151 (fun v6 s5 h5 => ?_)
    obtain ⟨q6, q5⟩ := h5
    subst q5
    rw [r_24 h]
    refine gT_chk (by omega) (by omega) (gT_ret ⟨rfl, ?_, rfl⟩)
    dsimp only
    rw [q6, q4, q2]
noncomputable def bt (men x : Int) : Prop := gand (gshr men x) 1 = 1
theorem e_153 {men x : Int} : gT (f_153 men x s) (fun q => q.1 = 1 ∧ ((q.2.1 = 1 ∧ bt men x) ∨ (q.2.1 = 0 ∧ ¬ bt men x)) ∧ q.2.2.2 = s) := by
  unfold f_153
  exact gT_ite (fun hc => gT_ret ⟨rfl, Or.inl ⟨rfl, hc⟩, rfl⟩) (fun hc => gT_ret ⟨rfl, Or.inr ⟨rfl, hc⟩, rfl⟩)
/-- the table is right in the rows behind r0 and, in r0, below m0 -/
noncomputable def Tab (M n : Int) (s : gS) (r0 m0 : Int) : Prop := ∀ r men : Int, 0 ≤ r → r < n → 0 ≤ men → men < 64 → (r0 < r ∨ (r = r0 ∧ men < m0)) → ∃ x : Int, (x = -1 ∨ ((0 ≤ x ∧ x < M) ∧ bt men x)) ∧ gvv s r x men = gI s 230 (64 * r + men).toNat
/-- what stays -/
noncomputable def Hs (p : gP) (M n : Int) (s : gS) : Prop := J p s ∧ gI s 218 4 = M ∧ gI s 218 6 = n
theorem gvv_w {r r0 m0 x men v : Int} (hr : r0 ≤ r) (h0 : 0 ≤ r0) (hm0 : 0 ≤ m0 ∧ m0 ≤ 63) (hm : 0 ≤ men ∧ men ≤ 63) : gvv (gw s 230 (64 * r0 + m0).toNat v) r x men = gvv s r x men := by
  have b := gand_le_l (x := men) (m := gxor (gshl 1 x) (-1)) hm.1 (by omega)
  have e1 : ∀ i : Int, 0 ≤ i → gI (gw s 230 (64 * r0 + m0).toNat v) 230 (64 * (r + 1) + i).toNat = gI s 230 (64 * (r + 1) + i).toNat := fun i hi => rd_k (a := 230) (k := (64 * (r + 1) + i).toNat) rfl (by omega)
  have e2 : ∀ k, gI (gw s 230 (64 * r0 + m0).toNat v) 218 k = gI s 218 k := fun k => rd_a rfl (by decide)
  unfold gvv
  rw [e1 men hm.1, e1 _ b.1, e2, e2]
theorem Tab_w {M n r0 m0 v : Int} (h : Tab M n s r0 m0) (h0 : 0 ≤ r0) (hm0 : 0 ≤ m0 ∧ m0 ≤ 63) (hv : r0 < n → ∃ x : Int, (x = -1 ∨ ((0 ≤ x ∧ x < M) ∧ bt m0 x)) ∧ gvv s r0 x m0 = v) : Tab M n (gw s 230 (64 * r0 + m0).toNat v) r0 (m0 + 1) := by
  intro r men h1 h2 h3 h4 h5
  by_cases e : r = r0 ∧ men = m0
  · obtain ⟨rfl, rfl⟩ := e
    obtain ⟨x, hx1, hx2⟩ := hv h2
    refine ⟨x, hx1, ?_⟩
    rw [gvv_w (by omega) h0 hm0 hm0, hx2]
    exact (rd_same rfl).symm
  · obtain ⟨x, hx1, hx2⟩ := h r men h1 h2 h3 h4 (by omega)
    refine ⟨x, hx1, ?_⟩
    rw [gvv_w (by omega) h0 hm0 (by omega), hx2]
    exact (rd_k (a := 230) (k := (64 * r + men).toNat) rfl (by omega)).symm
theorem Hs_w {M n v : Int} {k : Nat} (h : Hs p M n s) : Hs p M n (gw s 230 k v) := by
  refine ⟨?_, (rd_a rfl (by decide)).trans h.2.1, (rd_a rfl (by decide)).trans h.2.2⟩
  have := J_wa (k := k) (v := v) h.1 (T_f (i := 24) h.1 t12 (by decide) rfl rfl) rfl
  rw [r_24 h.1] at this
  exact this
theorem c_252 {v : Int} (h : J p s) : gT (f_252 217 v s) (fun q => q.1 = 1 ∧ (0 ≤ q.2.1 ∧ q.2.1 ≤ 63) ∧ q.2.2.2 = s) := by
  have bm := J_m (k := 4) h h t12 rfl
  unfold f_252
  refine gT_loop (fun y => y.1 = 217 ∧ (0 ≤ y.2.2.1 ∧ y.2.2.1 ≤ 63) ∧ (0 ≤ y.2.2.2.1 ∧ y.2.2.2.1 ≤ 6) ∧ y.2.2.2.2 = s) (fun y => (6 - y.2.2.2.1).toNat) (fun y hy => ?_) ⟨rfl, by dsimp only; omega, by dsimp only; omega, rfl⟩
  obtain ⟨x0, x1, x2, x3, u⟩ := y
  obtain ⟨q0, r2, r3, q1⟩ := hy
  dsimp only at q0 r2 r3 q1
  subst q0 q1
  have g1 := g32_eq (v := x3 + 1) (by omega) (by omega)
  show gT (sb_252_4 217 x1 x2 x3 u) _
  unfold sb_252_4
  refine gT_ite (fun hx => ?_) (fun _ => gT_map (gT_ret ⟨rfl, r2, rfl⟩))
  refine gT_v1 (A := fun _ z => z = u) (gT_mono (c_156 h t12 (by omega) (by decide)) (fun q hq => ⟨hq.1, hq.2.2.2⟩)) (fun v5 s4 e => ?_)
  subst e
  have b1 := gshl_5 (x := x3) (by omega)
  have b2 := gor_lt (x := x2) (y := gshl 1 x3) 6 (by decide) (by constructor <;> omega) (by constructor <;> omega)
  have b3 := gor_lt (x := x2) (y := 0) 6 (by decide) (by constructor <;> omega) (by constructor <;> omega)
  exact gT_ite (fun _ => gT_ret ⟨⟨rfl, by dsimp only; omega, by dsimp only; omega, rfl⟩, by dsimp only; omega⟩) (fun _ => gT_ret ⟨⟨rfl, by dsimp only; omega, by dsimp only; omega, rfl⟩, by dsimp only; omega⟩)
/-- who gets whom -/
theorem c247_b {M n k men : Int} (h : Hs p M n s) (ht : Tab M n s (-1) 0) (hM : 0 ≤ M ∧ M ≤ 6) (hn : 0 ≤ n ∧ n ≤ 6) (hk : 0 ≤ k ∧ k < n) (hm : 0 ≤ men ∧ men ≤ 63) : gT (gloop st_247_175 (217, k, men, -1, 0, s)) (fun q => q.1 = 1 ∧ True ∧ J p q.2.2.2) := by
  refine gT_loop (fun y => y.1 = 217 ∧ y.2.1 = k ∧ (0 ≤ y.2.2.1 ∧ y.2.2.1 ≤ 63) ∧ (0 ≤ y.2.2.2.2.1 ∧ y.2.2.2.2.1 ≤ 6) ∧ y.2.2.2.2.2 = s) (fun y => (6 - y.2.2.2.2.1).toNat) (fun y hy => ?_) ⟨rfl, rfl, hm, by dsimp only; omega, rfl⟩
  obtain ⟨x0, x1, x3, x4, x5, u⟩ := y
  obtain ⟨q0, q1, r3, r5, q2⟩ := hy
  dsimp only at q0 q1 r3 r5 q2
  subst q0 q1 q2
  show gT (sb_247_175 217 x1 x3 x4 x5 u) _
  unfold sb_247_175
  refine gT_ite (fun _ => gT_map (gT_ret ⟨rfl, trivial, h.1⟩)) (fun hx => ?_)
  obtain ⟨X, hX1, hX2⟩ := ht x5 x3 r5.1 (by omega) r3.1 (by omega) (Or.inl (by omega))
  have bX : -1 ≤ X ∧ X ≤ 5 := by
    rcases hX1 with e | ⟨e, -⟩
    · omega
    · omega
  refine gT_loop (fun y => (y.1 = 217 ∧ y.2.1 = x1 ∧ y.2.2.1 = x3 ∧ y.2.2.2.2.1 = x5 ∧ y.2.2.2.2.2 = u) ∧ (-1 ≤ y.2.2.2.1 ∧ y.2.2.2.1 ≤ X)) (fun y => (X - y.2.2.2.1).toNat) (fun y hy => ?_) ⟨⟨rfl, rfl, rfl, rfl, rfl⟩, by dsimp only; omega⟩
  obtain ⟨y0, y1, y3, y4, y5, w⟩ := y
  obtain ⟨⟨q0, q1, q3, q5, q6⟩, r4⟩ := hy
  dsimp only at q0 q1 q3 q5 q6 r4
  subst q0 q1 q3 q5 q6
  have g4 := g32_eq (v := y4 + 1) (by omega) (by omega)
  have g5 := g32_eq (v := y5 + 1) (by omega) (by omega)
  have g6 := g32_eq (v := 64 * y5) (by omega) (by omega)
  have g7 := g32_eq (v := 64 * y5 + y3) (by omega) (by omega)
  have hgo : (y4 = -1 ∨ bt y3 y4) → gT (fb_247_199 217 y1 y3 y4 y5 w) (Sum.elim (fun y => ((y.1 = 217 ∧ y.2.1 = y1 ∧ y.2.2.1 = y3 ∧ y.2.2.2.2.1 = y5 ∧ y.2.2.2.2.2 = w) ∧ (-1 ≤ y.2.2.2.1 ∧ y.2.2.2.1 ≤ X)) ∧ (X - y.2.2.2.1).toNat < (X - y4).toNat) (Sum.elim (fun y => (y.1 = 217 ∧ y.2.1 = y1 ∧ (0 ≤ y.2.2.1 ∧ y.2.2.1 ≤ 63) ∧ (0 ≤ y.2.2.2.2.1 ∧ y.2.2.2.2.1 ≤ 6) ∧ y.2.2.2.2.2 = w) ∧ (6 - y.2.2.2.2.1).toNat < (6 - y5).toNat) (fun q => q.1 = 1 ∧ True ∧ J p q.2.2.2))) := by
    intro hy4
    unfold fb_247_199
    rw [g6, g7, g5, g4]
    refine gT_v1 (A := fun v z => v = gvv w y5 y4 y3 ∧ z = w) (e_246 h.1 (by omega) (by omega) (by omega)) (fun v6 s5 h5 => ?_)
    obtain ⟨e6, e5⟩ := h5
    subst e5
    rw [r_24 h.1]
    refine gT_chk (by omega) (by omega) ?_
    refine gT_ite (fun hv => gT_map ?_) (fun hv => ?_)
    · have b1 := gand_le (x := y3) (m := 63) (by decide) (by decide)
      have b2 := gand_le_l (x := y3) (m := gxor (gshl 1 y4) (-1)) r3.1 (by omega)
      exact gT_ite (fun _ => gT_ret ⟨⟨rfl, rfl, by dsimp only; omega, by dsimp only; omega, rfl⟩, by dsimp only; omega⟩) (fun _ => gT_ret ⟨⟨rfl, rfl, by dsimp only; omega, by dsimp only; omega, rfl⟩, by dsimp only; omega⟩)
    · have hlt : y4 < X := by
        by_cases e : y4 = X
        · exfalso
          apply hv
          rw [e6, e]
          exact hX2
        · omega
      exact gT_ret ⟨⟨⟨rfl, rfl, rfl, rfl, rfl⟩, by dsimp only; omega⟩, by dsimp only; omega⟩
  show gT (sb_247_184 217 y1 y3 y4 y5 w) _
  unfold sb_247_184
  refine gT_ite (fun h1 => hgo (Or.inl h1)) (fun h1 => ?_)
  refine gT_v1 (A := fun v z => ((v = 1 ∧ bt y3 y4) ∨ (v = 0 ∧ ¬ bt y3 y4)) ∧ z = w) e_153 (fun v9 s8 h8 => ?_)
  obtain ⟨r9, e8⟩ := h8
  subst e8
  refine gT_ite (fun h0 => ?_) (fun h0 => hgo (Or.inr ?_))
  · have hnb : ¬ bt y3 y4 := by
      rcases r9 with ⟨e, -⟩ | ⟨-, e⟩
      · omega
      · exact e
    have hlt : y4 < X := by
      by_cases e : y4 = X
      · exfalso
        rcases hX1 with e1 | ⟨-, e1⟩
        · omega
        · rw [e] at hnb; exact hnb e1
      · omega
    rw [g4]
    exact gT_ret ⟨⟨⟨rfl, rfl, rfl, rfl, rfl⟩, by dsimp only; omega⟩, by dsimp only; omega⟩
  · rcases r9 with ⟨-, e⟩ | ⟨e, -⟩
    · exact e
    · omega
/-- a cell of the table -/
theorem c247_r {M y1 y2 y3 y4 b : Int} {w : gS} (hw : Hs p M y2 w) (hM : 0 ≤ M ∧ M ≤ 6) (hn : 0 ≤ y2 ∧ y2 ≤ 6) (r3 : 0 ≤ y3 ∧ y3 ≤ y2) (r4 : 0 ≤ y4 ∧ y4 ≤ 63) (hb : y3 < y2 → gvv w y3 (-1) y4 = b) : gT (gloop st_247_77 (217, y1, y2, y3, y4, b, 0, w)) (fun q => ∃ b', q = Sum.inl (217, y1, y2, y3, y4 + 1, gw w 230 (64 * y3 + y4).toNat b') ∧ (y3 < y2 → ∃ x : Int, (x = -1 ∨ ((0 ≤ x ∧ x < M) ∧ bt y4 x)) ∧ gvv w y3 x y4 = b')) := by
  have g4 := g32_eq (v := y4 + 1) (by omega) (by omega)
  have g6 := g32_eq (v := 64 * y3) (by omega) (by omega)
  have g7 := g32_eq (v := 64 * y3 + y4) (by omega) (by omega)
  have hwr : ∀ (b : Int), (y3 < y2 → ∃ x : Int, (x = -1 ∨ ((0 ≤ x ∧ x < M) ∧ bt y4 x)) ∧ gvv w y3 x y4 = b) → gT (fb_247_125 217 y1 y2 y3 y4 b w) (fun q => ∃ b', q = Sum.inl (217, y1, y2, y3, y4 + 1, gw w 230 (64 * y3 + y4).toNat b') ∧ (y3 < y2 → ∃ x : Int, (x = -1 ∨ ((0 ≤ x ∧ x < M) ∧ bt y4 x)) ∧ gvv w y3 x y4 = b')) := by
    intro b hb
    unfold fb_247_125
    rw [g6, g7, g4, r_24 hw.1]
    exact gT_chk (by omega) (by omega) (gT_ret ⟨b, rfl, hb⟩)
  refine gT_loop (fun y => (y.1 = 217 ∧ y.2.1 = y1 ∧ y.2.2.1 = y2 ∧ y.2.2.2.1 = y3 ∧ y.2.2.2.2.1 = y4 ∧ y.2.2.2.2.2.2.2 = w) ∧ (0 ≤ y.2.2.2.2.2.2.1 ∧ y.2.2.2.2.2.2.1 ≤ 6) ∧ (y3 < y2 → ∃ x : Int, (x = -1 ∨ ((0 ≤ x ∧ x < M) ∧ bt y4 x)) ∧ gvv w y3 x y4 = y.2.2.2.2.2.1)) (fun y => (6 - y.2.2.2.2.2.2.1).toNat) (fun y hy => ?_) ⟨⟨rfl, rfl, rfl, rfl, rfl, rfl⟩, by dsimp only; omega, fun e => ⟨-1, Or.inl rfl, hb e⟩⟩
  obtain ⟨z0, z1, z2, z3, z4, z5, z6, o⟩ := y
  obtain ⟨⟨q0, q1, q2, q3, q4, q5⟩, r6, hex⟩ := hy
  dsimp only at q0 q1 q2 q3 q4 q5 r6 hex
  subst q0 q1 q2 q3 q4 q5
  have g8 := g32_eq (v := z6 + 1) (by omega) (by omega)
  show gT (sb_247_77 217 z1 z2 z3 z4 z5 z6 o) _
  unfold sb_247_77
  rw [r_m hw.1 t12, hw.2.1]
  refine gT_ite (fun h6 => ?_) (fun _ => gT_map (hwr _ hex))
  refine gT_ite (fun h3 => ?_) (fun _ => gT_map (hwr _ hex))
  refine gT_v1 (A := fun v u => ((v = 1 ∧ bt z4 z6) ∨ (v = 0 ∧ ¬ bt z4 z6)) ∧ u = o) e_153 (fun v12 s11 h11 => ?_)
  obtain ⟨r12, e11⟩ := h11
  subst e11
  refine gT_ite (fun _ => gT_ret ⟨⟨⟨rfl, rfl, rfl, rfl, rfl, rfl⟩, by dsimp only; omega, hex⟩, by dsimp only; omega⟩) (fun hn => ?_)
  refine gT_v1 (A := fun v u => v = gvv s11 z3 z6 z4 ∧ u = s11) (e_246 hw.1 (by omega) (by omega) (by omega)) (fun v15 s14 h14 => ?_)
  obtain ⟨e15, e14⟩ := h14
  subst e14
  refine gT_v1 (A := fun v u => v = max z5 v15 ∧ u = s14) e_152 (fun v17 s16 h16 => ?_)
  obtain ⟨e17, e16⟩ := h16
  subst e16
  have hbt : bt z4 z6 := by
    rcases r12 with ⟨-, e⟩ | ⟨e, -⟩
    · exact e
    · omega
  refine gT_ret ⟨⟨⟨rfl, rfl, rfl, rfl, rfl, rfl⟩, by dsimp only; omega, fun e => ?_⟩, by dsimp only; omega⟩
  dsimp only
  by_cases hc : z5 ≤ v15
  · exact ⟨z6, Or.inr ⟨⟨r6.1, h6⟩, hbt⟩, by rw [e17, Int.max_eq_right hc, e15]⟩
  · obtain ⟨x, hx1, hx2⟩ := hex e
    exact ⟨x, hx1, by rw [e17, Int.max_eq_left (Int.le_of_lt (Int.not_le.mp hc)), hx2]⟩
/-- a row of the table -/
theorem c247_q {M x1 x2 x3 : Int} {u : gS} (hu : Hs p M x2 u) (tu : Tab M x2 u x3 0) (hM : 0 ≤ M ∧ M ≤ 6) (hn : 0 ≤ x2 ∧ x2 ≤ 6) (r3 : 0 ≤ x3 ∧ x3 ≤ x2) : gT (gloop st_247_48 (217, x1, x2, x3, 0, u)) (fun q => ∃ s', q = Sum.inl (217, x1, x2, x3 - 1, s') ∧ Hs p M x2 s' ∧ Tab M x2 s' (x3 - 1) 0) := by
  refine gT_loop (fun y => (y.1 = 217 ∧ y.2.1 = x1 ∧ y.2.2.1 = x2 ∧ y.2.2.2.1 = x3) ∧ (0 ≤ y.2.2.2.2.1 ∧ y.2.2.2.2.1 ≤ 64) ∧ Hs p M x2 y.2.2.2.2.2 ∧ Tab M x2 y.2.2.2.2.2 x3 y.2.2.2.2.1) (fun y => (64 - y.2.2.2.2.1).toNat) ?_ ?_
  rotate_left
  · dsimp only
    exact ⟨⟨rfl, rfl, rfl, rfl⟩, by decide, hu, tu⟩
  intro y hy
  obtain ⟨y0, y1, y2, y3, y4, w⟩ := y
  obtain ⟨⟨q0, q1, q2, q3⟩, r4, hw, tw⟩ := hy
  dsimp only at q0 q1 q2 q3 r4 hw tw
  subst q0 q1 q2 q3
  have g3 := g32_eq (v := y3 + -1) (by omega) (by omega)
  have hrow : ∀ b : Int, y4 < 64 → (y3 < y2 → gvv w y3 (-1) y4 = b) → gT (fb_247_72 217 y1 y2 y3 y4 b w) (Sum.elim (fun y => ((y.1 = 217 ∧ y.2.1 = y1 ∧ y.2.2.1 = y2 ∧ y.2.2.2.1 = y3) ∧ (0 ≤ y.2.2.2.2.1 ∧ y.2.2.2.2.1 ≤ 64) ∧ Hs p M y2 y.2.2.2.2.2 ∧ Tab M y2 y.2.2.2.2.2 y3 y.2.2.2.2.1) ∧ (64 - y.2.2.2.2.1).toNat < (64 - y4).toNat) (fun q => ∃ s', q = Sum.inl (217, y1, y2, y3 - 1, s') ∧ Hs p M y2 s' ∧ Tab M y2 s' (y3 - 1) 0)) := by
    intro b h64 hb
    unfold fb_247_72
    refine gT_mono (c247_r hw hM hn r3 (by omega) hb) (fun q hq => ?_)
    obtain ⟨b', rfl, hb'⟩ := hq
    exact ⟨⟨⟨rfl, rfl, rfl, rfl⟩, by dsimp only; omega, Hs_w hw, Tab_w tw (by omega) (by omega) hb'⟩, by dsimp only; omega⟩
  show gT (sb_247_48 217 y1 y2 y3 y4 w) _
  unfold sb_247_48
  refine gT_ite (fun h64 => ?_) (fun h64 => gT_map ?_)
  · refine gT_ite (fun he => hrow _ h64 (fun e => by omega)) (fun he => ?_)
    refine gT_v1 (A := fun v u => v = gvv w y3 (-1) y4 ∧ u = w) (e_246 hw.1 (by omega) (by decide) (by omega)) (fun v20 s19 h19 => ?_)
    obtain ⟨e20, e19⟩ := h19
    subst e19
    exact hrow _ h64 (fun _ => e20.symm)
  · refine gT_ret ⟨w, ?_, hw, fun r men h1 h2 h3 h4 h5 => tw r men h1 h2 h3 h4 (by omega)⟩
    rw [g3]
    rfl
theorem c247_a {M n k : Int} (h : Hs p M n s) (hM : 0 ≤ M ∧ M ≤ 6) (hn : 0 ≤ n ∧ n ≤ 6) (hk : k = -1 ∨ (0 ≤ k ∧ k < n)) : gT (gloop st_247_41 (217, k, n, n, s)) (fun q => q.1 = 1 ∧ True ∧ J p q.2.2.2) := by
  refine gT_loop (fun y => (y.1 = 217 ∧ y.2.1 = k ∧ y.2.2.1 = n) ∧ (-1 ≤ y.2.2.2.1 ∧ y.2.2.2.1 ≤ n) ∧ Hs p M n y.2.2.2.2 ∧ Tab M n y.2.2.2.2 y.2.2.2.1 0) (fun y => (y.2.2.2.1 + 1).toNat) (fun y hy => ?_) ⟨⟨rfl, rfl, rfl⟩, by dsimp only; omega, h, fun r men h1 h2 h3 h4 h5 => by dsimp only at h5; omega⟩
  obtain ⟨x0, x1, x2, x3, u⟩ := y
  obtain ⟨⟨q0, q1, q2⟩, r3, hu, tu⟩ := hy
  dsimp only at q0 q1 q2 r3 hu tu
  subst q0 q1 q2
  show gT (sb_247_41 217 x1 x2 x3 u) _
  unfold sb_247_41
  refine gT_ite (fun hx => gT_map ?_) (fun hx => ?_)
  · refine gT_v1 (A := fun v z => (0 ≤ v ∧ v ≤ 63) ∧ z = u) (c_252 hu.1) (fun v4 s3 h3 => ?_)
    obtain ⟨r4, e3⟩ := h3
    subst e3
    have e : x3 = -1 := by omega
    subst e
    refine gT_ite (fun _ => ?_) (fun hk1 => c247_b hu tu hM hn (by omega) r4)
    exact gT_chk (by omega) (by omega) (gT_ret ⟨rfl, trivial, hu.1⟩)
  · refine gT_mono (c247_q hu tu hM hn (by omega)) (fun q hq => ?_)
    obtain ⟨s', rfl, hs', ts'⟩ := hq
    exact ⟨⟨⟨rfl, rfl, rfl⟩, by dsimp only; omega, hs', ts'⟩, by dsimp only; omega⟩
theorem d_247 {a1 : Int} (hp : -1 ≤ p.1 ∧ p.1 ≤ 0) (h : J p s) (t0 : T 12 a0) : gT (f_247 a0 a1 s) (fun r => r.1 = 1 ∧ True ∧ J p r.2.2.2) := by
  rw [T_12 t0]
  have hth : ∀ (w : Int) (z : gS), (0 < w ∨ (w = 0 ∧ (a1 = -1 ∨ (0 ≤ a1 ∧ a1 < gI z 218 6)))) → J p z → gT (fb_247_19 217 a1 w 217 z) (fun r => r.1 = 1 ∧ True ∧ J p r.2.2.2) := by
    intro w z hw jz
    unfold fb_247_19
    extract_lets s1 v2
    have j1 : J p s1 := J_wf jz t12 rfl (by decide) (by decide) (fun q hq => by cases hq)
    have e1 : gI s1 217 0 = w := rd_same (show s1 = gw z 217 0 w from rfl)
    have e6 : gI s1 218 6 = gI z 218 6 := rd_a (show s1 = gw z 217 0 w from rfl) (by decide)
    refine gT_ite (fun _ => gT_ret ⟨rfl, trivial, j1⟩) (fun hn => ?_)
    have b6 := m_rd (k := 6) j1 rfl
    have b4 := m_rd (k := 4) j1 rfl
    have ev : v2 = gI s1 218 6 := by
      show gI s1 (gR s1 217 1) 6 = _
      rw [r_m j1 t12]
    rw [ev]
    exact c247_a (M := gI s1 218 4) ⟨j1, rfl, rfl⟩ (by omega) (by omega) (by omega)
  unfold f_247
  refine gT_ite (fun hk => hth _ _ (Or.inr ⟨rfl, Or.inl hk⟩) h) (fun hk => ?_)
  have b6 := m_rd (k := 6) h rfl
  refine gT_v1 (A := fun v u => ((v = 1 ∧ 0 ≤ a1 ∧ a1 ≤ gI s 218 6 - 1) ∨ (v = 0 ∧ (a1 < 0 ∨ gI s 218 6 - 1 < a1))) ∧ u = s) ?_ (fun v22 s21 h21 => ?_)
  · unfold f_164
    rw [r_m h t12, g32_eq (v := gI s 218 6 - 1) (by omega) (by omega)]
    refine gT_v1 (A := fun v u => ((v = 1 ∧ 0 ≤ a1 ∧ a1 ≤ gI s 218 6 - 1) ∨ (v = 0 ∧ (a1 < 0 ∨ gI s 218 6 - 1 < a1))) ∧ u = s) e_150 (fun v u hu => gT_ret ⟨rfl, hu⟩)
  obtain ⟨r22, e21⟩ := h21
  subst e21
  exact gT_ite (fun _ => hth _ _ (Or.inl (by decide)) h) (fun _ => hth _ _ (Or.inr ⟨rfl, Or.inr (by omega)⟩) h)
end So

end
