section Tu
variable {p : gP} {g s s' u u' : gS} {Q : Type} {P : Q → Q → Prop}
theorem gR_w {a k b j : Nat} {v : Int} : gR (gw s a k v) b j = gR s b j := rfl
theorem gG_b1 {PR : gS → gS → Prop} {z z' : Option gO} {E E' : Int → gS → Option Q} (h : gG (fun r r' => r'.1 = r.1 ∧ r'.2.1 = r.2.1 ∧ PR r.2.2.2 r'.2.2.2) z z') (k : ∀ v s s', PR s s' → gG P (E v s) (E' v s')) : gG P (z.bind (gv1 E)) (z'.bind (gv1 E')) := by
  cases z with
  | none => exact gG_none
  | some r =>
    cases z' with
    | none => intro q q' e e'; cases e'
    | some r' =>
      obtain ⟨h1, h2, h4⟩ := h r r' rfl rfl
      show gG P (gv1 E r) (gv1 E' r')
      unfold gv1
      rw [h1, h2]
      exact gG_ite (k _ _ _ h4) gG_none
theorem Eg_R (h : Eg g s) (a k : Nat) : gR s a k = gR g a k := by unfold gR; rw [h.1.2.2]
theorem Eg_14 (h : Eg g s) : gR s 217 14 = 223 := (Eg_R h 217 14).trans h.2.1.2.2.1
theorem sc_lo {r k : Nat} (h2 : r ≠ 223) (h3 : r ≠ 217) : scb r k = false := by
  unfold scb
  rw [es_beqf.mpr h2, es_beqf.mpr h3]
  rfl
/-- as at g, but for the reader's cells and the memo -/
def Em (g s : gS) : Prop := Sm g s ∧ (gR g 217 1 = 218 ∧ gR g 217 7 = 222 ∧ gR g 217 14 = 223 ∧ gR g 217 22 = 228) ∧ ∀ a k, a ≠ 228 → scb a k = false → gI s a k = gI g a k
theorem Em_R (h : Em g s) (a k : Nat) : gR s a k = gR g a k := by unfold gR; rw [h.1.2.2]
theorem Em_x (h : Em g s) {f r : Nat} (hr : gR g 217 f = r) (k : Nat) (h8 : r ≠ 228) (hs : scb r k = false) : gI s (gR s 217 f) k = gI g r k := by
  rw [Em_R h, hr]
  exact h.2.2 r k h8 hs
theorem Em_m (h : Em g s) (k : Nat) : gI s (gR s 217 1) k = gI g 218 k := Em_x h h.2.1.1 k (by decide) (sc_lo (by decide) (by decide))
theorem Em_14 (h : Em g s) : gR s 217 14 = 223 := (Em_R h 217 14).trans h.2.1.2.2.1
theorem Em_w {a k : Nat} {v : Int} (h : Em g s) (hc : scb a k = true) : Em g (gw s a k v) := by
  refine ⟨h.1, h.2.1, fun b j h8 hb => ?_⟩
  show (if b = a ∧ j = k then v else gI s b j) = _
  rw [if_neg (fun e => by rw [e.1, e.2, hc] at hb; cases hb)]
  exact h.2.2 b j h8 hb
theorem Eg_rf (h : Em g s) : Eg s s := ⟨Sm_r, ⟨(Em_R h 217 1).trans h.2.1.1, (Em_R h 217 7).trans h.2.1.2.1, (Em_R h 217 14).trans h.2.1.2.2.1, (Em_R h 217 22).trans h.2.1.2.2.2⟩, fun _ _ _ => rfl⟩
theorem Em_eg (h : Em g s) (h2 : Eg s s') : Em g s' := ⟨Sm_t h.1 h2.1, h.2.1, fun a k h8 hs => (h2.2.2 a k hs).trans (h.2.2 a k h8 hs)⟩
/-- alike but for the memo and some cells -/
def Ex (C : Nat → Nat → Prop) (s s' : gS) : Prop := (s'.1 = s.1 ∧ s'.2.1 = s.2.1 ∧ s'.2.2.2 = s.2.2.2) ∧ (gR s 217 1 = 218 ∧ gR s 217 7 = 222 ∧ gR s 217 14 = 223) ∧ ∀ a k, a ≠ 228 → ¬ C a k → gI s' a k = gI s a k
theorem X_w {C : Nat → Nat → Prop} {a k : Nat} {v : Int} (h : Ex C s s') : Ex (fun b j => C b j ∧ ¬ (b = a ∧ j = k)) (gw s a k v) (gw s' a k v) := by
  refine ⟨h.1, h.2.1, fun b j hb hc => ?_⟩
  show (if b = a ∧ j = k then v else gI s' b j) = (if b = a ∧ j = k then v else gI s b j)
  by_cases e : b = a ∧ j = k
  · rw [if_pos e, if_pos e]
  · rw [if_neg e, if_neg e]
    exact h.2.2 b j hb (fun z => hc ⟨z, e⟩)
theorem X_8 {C : Nat → Nat → Prop} (h : Ex C s s') (hc : ∀ a k, ¬ C a k) : Eq8 s s' := ⟨h.1, h.2.1, fun a k ha => h.2.2 a k ha (hc a k)⟩
theorem X_m {C C' : Nat → Nat → Prop} (h : Ex C s s') (hc : ∀ a k, C a k → C' a k) : Ex C' s s' := ⟨h.1, h.2.1, fun a k ha z => h.2.2 a k ha (fun q => z (hc a k q))⟩
def C0 (a k : Nat) : Prop := (a = 223 ∧ k < 7) ∨ (a = 217 ∧ (k = 9 ∨ k = 10 ∨ k = 11 ∨ k = 12 ∨ k = 13 ∨ k = 15 ∨ k = 16 ∨ k = 17))
def C1 (a k : Nat) : Prop := a = 217 ∧ (k = 9 ∨ k = 10 ∨ k = 11 ∨ k = 12 ∨ k = 13 ∨ k = 15 ∨ k = 16 ∨ k = 17)
def C2 (a k : Nat) : Prop := a = 217 ∧ (k = 9 ∨ k = 10 ∨ k = 11 ∨ k = 12 ∨ k = 13 ∨ k = 16 ∨ k = 17)
theorem scb_f {a k : Nat} (hc : ¬ C0 a k) : scb a k = false := by
  unfold C0 at hc
  unfold scb
  cases e1 : Nat.beq a 223 with
  | true =>
    have e1 := es_beq.mp e1
    have : Nat.blt k 7 = false := by
      cases e : Nat.blt k 7 with
      | true => have := es_blt.mp e; omega
      | false => rfl
    rw [this, es_beqf.mpr (show a ≠ 217 by omega)]
    rfl
  | false =>
    cases e2 : Nat.beq a 217 with
    | true =>
      have e2 := es_beq.mp e2
      rw [es_beqf.mpr (show k ≠ 9 by omega), es_beqf.mpr (show k ≠ 10 by omega), es_beqf.mpr (show k ≠ 11 by omega), es_beqf.mpr (show k ≠ 12 by omega), es_beqf.mpr (show k ≠ 13 by omega), es_beqf.mpr (show k ≠ 15 by omega), es_beqf.mpr (show k ≠ 16 by omega), es_beqf.mpr (show k ≠ 17 by omega)]
      rfl
    | false => rfl
theorem Em_X (h : Em g s) (h' : Em g s') : Ex C0 s s' := by
  refine ⟨⟨h'.1.1.trans h.1.1.symm, h'.1.2.1.trans h.1.2.1.symm, h'.1.2.2.trans h.1.2.2.symm⟩, ⟨(Em_R h 217 1).trans h.2.1.1, (Em_R h 217 7).trans h.2.1.2.1, Em_14 h⟩, fun a k ha hc => ?_⟩
  rw [h'.2.2 a k ha (scb_f hc), h.2.2 a k ha (scb_f hc)]
def PV (g : gS) (r r' : gO) : Prop := r'.1 = r.1 ∧ r'.2.1 = r.2.1 ∧ Em g r.2.2.2 ∧ Em g r'.2.2.2
theorem v197_c {w : Int} (hx : Ex C2 u u') (h : Em g u) (h' : Em g u') : gG (PV g) (fb_197_100 217 w 217 u) (fb_197_100 217 w 217 u') := by
  unfold fb_197_100
  refine gG_bool ?_
  dsimp only
  have k1 : Em g (gw (gw (gw (gw u 217 16 w) 217 17 0) 217 12 (-1)) 217 9 340) := Em_w (Em_w (Em_w (Em_w h rfl) rfl) rfl) rfl
  have k2 : Em g (gw (gw (gw (gw u' 217 16 w) 217 17 0) 217 12 (-1)) 217 9 340) := Em_w (Em_w (Em_w (Em_w h' rfl) rfl) rfl) rfl
  rw [Em_m k1 2, Em_m k2 2]
  have x := X_w (a := 217) (k := 13) (v := 0) (X_w (a := 217) (k := 11) (v := 0) (X_w (a := 217) (k := 10) (v := gI g 218 2) (X_w (a := 217) (k := 9) (v := 340) (X_w (a := 217) (k := 12) (v := -1) (X_w (a := 217) (k := 17) (v := 0) (X_w (a := 217) (k := 16) (v := w) hx))))))
  have e8 := X_8 x (fun b j => by unfold C2; omega)
  have m1 := Em_w (a := 217) (k := 13) (v := 0) (Em_w (a := 217) (k := 11) (v := 0) (Em_w (a := 217) (k := 10) (v := gI g 218 2) k1 rfl) rfl) rfl
  have m2 := Em_w (a := 217) (k := 13) (v := 0) (Em_w (a := 217) (k := 11) (v := 0) (Em_w (a := 217) (k := 10) (v := gI g 218 2) k2 rfl) rfl) rfl
  refine gG_b1 (PR := fun s s' => gI s' 217 17 = gI s 217 17 ∧ Em g s ∧ Em g s') (fun r r' e e' => ?_) (fun v s s' hp => ?_)
  · have q := n_184 e8 r r' e e'
    exact ⟨q.1, q.2.1, E_i q.2.2.2 17, Em_eg m1 (o_184 (Eg_rf m1) r e), Em_eg m2 (o_184 (Eg_rf m2) r' e')⟩
  · refine gG_ret ⟨rfl, ?_, Em_w hp.2.1 rfl, Em_w hp.2.2 rfl⟩
    dsimp only
    rw [rd_k (a := 217) (k := 17) rfl (by decide), rd_k (a := 217) (k := 17) rfl (by decide)]
    exact hp.1
theorem v197_b {a4 w : Int} (hx : Ex C1 u u') (h : Em g u) (h' : Em g u') : gG (PV g) (fb_197_80 217 a4 w 217 u) (fb_197_80 217 a4 w 217 u') := by
  unfold fb_197_80
  refine gG_bool ?_
  dsimp only
  have k1 : Em g (gw u 217 15 w) := Em_w h rfl
  have k2 : Em g (gw u' 217 15 w) := Em_w h' rfl
  rw [Em_m k1 3, Em_m k2 3]
  have x : Ex C2 (gw u 217 15 w) (gw u' 217 15 w) := X_m (X_w hx) (fun b j hc => by unfold C1 at hc; unfold C2; omega)
  exact gG_ite (v197_c x k1 k2) (v197_c x k1 k2)
theorem v_197 {a1 a2 a3 a4 a5 a6 a7 : Int} (h : Em g s) (h' : Em g s') : gG (PV g) (f_197 217 a1 a2 a3 a4 a5 a6 a7 s) (f_197 217 a1 a2 a3 a4 a5 a6 a7 s') := by
  unfold f_197
  rw [Em_m h 1, Em_m h' 1]
  refine gG_ite (gG_ret ⟨rfl, rfl, h, h'⟩) ?_
  dsimp only
  simp only [gR_w, Em_14 h, Em_14 h']
  have x := X_w (a := 223) (k := 6) (v := a7) (X_w (a := 223) (k := 5) (v := gdiv a6 10) (X_w (a := 223) (k := 4) (v := a5) (X_w (a := 223) (k := 3) (v := a4) (X_w (a := 223) (k := 2) (v := a3) (X_w (a := 223) (k := 1) (v := a2) (X_w (a := 223) (k := 0) (v := a1) (Em_X h h')))))))
  have x := X_m (C' := C1) x (fun b j hc => by unfold C0 at hc; unfold C1; omega)
  have m1 := Em_w (a := 223) (k := 6) (v := a7) (Em_w (a := 223) (k := 5) (v := gdiv a6 10) (Em_w (a := 223) (k := 4) (v := a5) (Em_w (a := 223) (k := 3) (v := a4) (Em_w (a := 223) (k := 2) (v := a3) (Em_w (a := 223) (k := 1) (v := a2) (Em_w (a := 223) (k := 0) (v := a1) h rfl) rfl) rfl) rfl) rfl) rfl) rfl
  have m2 := Em_w (a := 223) (k := 6) (v := a7) (Em_w (a := 223) (k := 5) (v := gdiv a6 10) (Em_w (a := 223) (k := 4) (v := a5) (Em_w (a := 223) (k := 3) (v := a4) (Em_w (a := 223) (k := 2) (v := a3) (Em_w (a := 223) (k := 1) (v := a2) (Em_w (a := 223) (k := 0) (v := a1) h' rfl) rfl) rfl) rfl) rfl) rfl) rfl
  exact gG_ite (v197_b x m1 m2) (v197_b x m1 m2)
theorem q197_b {s0 : gS} {a4 w : Int} (h : Eg s0 u) : gQ (fb_197_80 217 a4 w 217 u) (fun r => Eg s0 r.2.2.2) := by
  have h1 : ∀ x : Int, gQ (fb_197_100 217 x 217 (gw u 217 15 w)) (fun r => Eg s0 r.2.2.2) := by
    intro x
    unfold fb_197_100
    refine gQ_bool ?_
    dsimp only
    exact gQ_v1 (A := Eg s0) (o_184 (Eg_w (Eg_w (Eg_w (Eg_w (Eg_w (Eg_w (Eg_w (Eg_w h rfl) rfl) rfl) rfl) rfl) rfl) rfl) rfl)) (fun v s hs => gQ_ret (Eg_w hs rfl))
  unfold fb_197_80
  refine gQ_bool ?_
  dsimp only
  exact gQ_ite (h1 _) (h1 _)
theorem q_197 {s0 : gS} {a1 a2 a3 a4 a5 a6 a7 : Int} (h : Eg s0 s) : gQ (f_197 217 a1 a2 a3 a4 a5 a6 a7 s) (fun r => Eg s0 r.2.2.2) := by
  unfold f_197
  refine gQ_ite (gQ_ret h) ?_
  dsimp only
  simp only [gR_w, Eg_14 h]
  have m1 := Eg_w (a := 223) (k := 6) (v := a7) (Eg_w (a := 223) (k := 5) (v := gdiv a6 10) (Eg_w (a := 223) (k := 4) (v := a5) (Eg_w (a := 223) (k := 3) (v := a4) (Eg_w (a := 223) (k := 2) (v := a3) (Eg_w (a := 223) (k := 1) (v := a2) (Eg_w (a := 223) (k := 0) (v := a1) h rfl) rfl) rfl) rfl) rfl) rfl) rfl
  exact gQ_ite (q197_b m1) (q197_b m1)
/-- by what the law turns, at the start g -/
noncomputable def tv (g : gS) (a1 a2 a3 a4 a5 a6 a7 : Int) : Int := match f_197 217 a1 a2 a3 a4 a5 a6 a7 g with
  | some r => r.2.1
  | none => 0
theorem Em_r (h : J p g) : Em g g := ⟨Sm_r, ⟨r_m h t12, r_mt h t12, J_r h rfl (by decide +kernel) (by decide +kernel), J_r h rfl (by decide +kernel) (by decide +kernel)⟩, fun _ _ _ _ => rfl⟩
theorem w_197 {a1 a2 a3 a4 a5 a6 a7 : Int} (hp : -1 ≤ p.1 ∧ p.1 ≤ 0) (hg : J p g) (h : J p s) (he : Em g s) : gT (f_197 217 a1 a2 a3 a4 a5 a6 a7 s) (fun r => r.1 = 1 ∧ r.2.1 = tv g a1 a2 a3 a4 a5 a6 a7 ∧ J p r.2.2.2 ∧ Em g r.2.2.2 ∧ ∀ k, gI r.2.2.2 228 k = gI s 228 k) := by
  obtain ⟨r0, e0, -⟩ := d_197 (a1 := a1) (a2 := a2) (a3 := a3) (a4 := a4) (a5 := a5) (a6 := a6) (a7 := a7) hp hg t12
  obtain ⟨r, e, h1, -, h2⟩ := d_197 (a1 := a1) (a2 := a2) (a3 := a3) (a4 := a4) (a5 := a5) (a6 := a6) (a7 := a7) hp h t12
  have q := v_197 (Em_r hg) he r0 r e0 e
  refine ⟨r, e, h1, ?_, h2, q.2.2.2, fun k => (q_197 (Eg_rf he) r e).2.2 228 k (sc_lo (by decide) (by decide))⟩
  unfold tv
  rw [e0]
  exact q.2.1
theorem e_151 {x y : Int} : gT (f_151 x y s) (fun r => r.1 = 1 ∧ r.2.1 = min x y ∧ r.2.2.2 = s) := by
  unfold f_151
  exact gT_ite (fun _ => gT_ret ⟨rfl, by dsimp only; omega, rfl⟩) (fun _ => gT_ret ⟨rfl, by dsimp only; omega, rfl⟩)
theorem e_152 {x y : Int} : gT (f_152 x y s) (fun r => r.1 = 1 ∧ r.2.1 = max x y ∧ r.2.2.2 = s) := by
  unfold f_152
  exact gT_ite (fun _ => gT_ret ⟨rfl, by dsimp only; omega, rfl⟩) (fun _ => gT_ret ⟨rfl, by dsimp only; omega, rfl⟩)
/-- trust behind day k -/
noncomputable def bv (g : gS) (x k t n : Int) : Int := max 0 (min 99 (g32 (min 99 (g32 (t + gI g 227 k.toNat)) + tv g x (min 99 (g32 (t + gI g 227 k.toNat))) n (gI g 225 k.toNat) (gI g 226 k.toNat) (gI g 224 k.toNat) (min 9999 (g32 (gI g 218 7 + k))))))
theorem r_on (h : J p g) : gR g 217 18 = 224 ∧ gR g 217 19 = 225 ∧ gR g 217 20 = 226 ∧ gR g 217 21 = 227 ∧ gR g 217 22 = 228 := ⟨J_r h rfl (by decide +kernel) (by decide +kernel), J_r h rfl (by decide +kernel) (by decide +kernel), J_r h rfl (by decide +kernel) (by decide +kernel), J_r h rfl (by decide +kernel) (by decide +kernel), J_r h rfl (by decide +kernel) (by decide +kernel)⟩
theorem w_228 {x k t n : Int} (hp : -1 ≤ p.1 ∧ p.1 ≤ 0) (hg : J p g) (h : J p s) (he : Em g s) (hk : 0 ≤ k ∧ k ≤ 29) : gT (f_228 217 x k t n s) (fun r => r.1 = 1 ∧ r.2.1 = bv g x k t n ∧ J p r.2.2.2 ∧ Em g r.2.2.2 ∧ ∀ k, gI r.2.2.2 228 k = gI s 228 k) := by
  obtain ⟨q8, q9, q20, q21, -⟩ := r_on hg
  unfold f_228
  have sc : ∀ {r k : Nat}, 224 ≤ r → r ≤ 227 → scb r k = false := fun h1 h2 => sc_lo (by omega) (by omega)
  rw [Em_x he q21 _ (by decide) (sc (by decide) (by decide))]
  refine gT_chk (by omega) (by omega) ?_
  refine gT_v1 (A := fun v z => v = min 99 (g32 (t + gI g 227 k.toNat)) ∧ z = s) e_151 (fun v2 s1 h1 => ?_)
  obtain ⟨e2, e1⟩ := h1
  subst e1
  rw [Em_x he q9 _ (by decide) (sc (by decide) (by decide)), Em_x he q20 _ (by decide) (sc (by decide) (by decide)), Em_x he q8 _ (by decide) (sc (by decide) (by decide)), Em_m he 7]
  refine gT_chk (by omega) (by omega) (gT_chk (by omega) (by omega) (gT_chk (by omega) (by omega) ?_))
  refine gT_v1 (A := fun v z => v = min 9999 (g32 (gI g 218 7 + k)) ∧ z = s1) e_151 (fun v4 s3 h3 => ?_)
  obtain ⟨e4, e3⟩ := h3
  subst e3
  refine gT_v1 (A := fun v z => v = tv g x v2 n (gI g 225 k.toNat) (gI g 226 k.toNat) (gI g 224 k.toNat) v4 ∧ J p z ∧ Em g z ∧ ∀ k, gI z 228 k = gI s3 228 k) (w_197 hp hg h he) (fun v6 s5 h5 => ?_)
  obtain ⟨e6, j5, k5⟩ := h5
  refine gT_v1 (A := fun v z => v = min 99 (g32 (v2 + v6)) ∧ z = s5) e_151 (fun v8 s7 h7 => ?_)
  obtain ⟨e8, e7⟩ := h7
  subst e7
  refine gT_v1 (A := fun v z => v = max 0 v8 ∧ z = s7) e_152 (fun v10 s9 h9 => ?_)
  obtain ⟨e10, e9⟩ := h9
  subst e9
  refine gT_ret ⟨rfl, ?_, j5, k5⟩
  dsimp only
  unfold bv
  rw [e10, e8, e6, e4, e2]
theorem bv_r {x k t n : Int} : 0 ≤ bv g x k t n ∧ bv g x k t n ≤ 99 := by
  unfold bv
  omega
/-- the greatest of f 0 .. f (c - 1), and 0 -/
def lW (f : Nat → Int) : Nat → Int
  | 0 => 0
  | c + 1 => max (lW f c) (f c)
theorem lW_ex {f : Nat → Int} (hf : ∀ c, 0 ≤ f c) (m : Nat) : ∃ c, c ≤ m ∧ f c = lW f (m + 1) := by
  induction m with
  | zero =>
    refine ⟨0, Nat.le_refl _, ?_⟩
    have := hf 0
    show f 0 = max 0 (f 0)
    omega
  | succ m ih =>
    obtain ⟨c, h1, h2⟩ := ih
    by_cases h : f (m + 1) ≤ lW f (m + 1)
    · refine ⟨c, by omega, ?_⟩
      show f c = max (lW f (m + 1)) (f (m + 1))
      omega
    · refine ⟨m + 1, Nat.le_refl _, ?_⟩
      show f (m + 1) = max (lW f (m + 1)) (f (m + 1))
      omega
theorem lW_b {f : Nat → Int} {B : Int} (hB : 0 ≤ B) (hf : ∀ c, f c ≤ B) (m : Nat) : 0 ≤ lW f m ∧ lW f m ≤ B := by
  induction m with
  | zero => exact ⟨Int.le_refl _, hB⟩
  | succ m ih =>
    have := hf m
    show 0 ≤ max (lW f m) (f m) ∧ max (lW f m) (f m) ≤ B
    omega
/-- days kept at most, j days before the end -/
noncomputable def lV (b : Int → Int → Int → Int) (bar P : Int) : Nat → Int → Int → Int
  | 0, _, _ => 0
  | j + 1, t, n => lW (fun u => if b (29 - j) (min 99 (t + P * u)) (n - u) < bar then 0 else 1 + lV b bar P j (b (29 - j) (min 99 (t + P * u)) (n - u)) (n - u)) (n.toNat + 1)
noncomputable def lU (b : Int → Int → Int → Int) (bar P : Int) (j : Nat) (t n u : Int) : Int := if b (29 - j) (min 99 (t + P * u)) (n - u) < bar then 0 else 1 + lV b bar P j (b (29 - j) (min 99 (t + P * u)) (n - u)) (n - u)
theorem lV_s {b : Int → Int → Int → Int} {bar P t n : Int} {j : Nat} : lV b bar P (j + 1) t n = lW (fun u => lU b bar P j t n u) (n.toNat + 1) := rfl
theorem lV_b {b : Int → Int → Int → Int} {bar P : Int} (j : Nat) : ∀ t n, 0 ≤ lV b bar P j t n ∧ lV b bar P j t n ≤ j := by
  induction j with
  | zero => intro t n; exact ⟨Int.le_refl _, Int.le_refl _⟩
  | succ j ih =>
    intro t n
    rw [lV_s]
    refine lW_b (by omega) (fun c => ?_) _
    unfold lU
    split
    · omega
    · have := ih (b (29 - j) (min 99 (t + P * c)) (n - c)) (n - c)
      omega
theorem lU_b {b : Int → Int → Int → Int} {bar P t n u : Int} {j : Nat} : 0 ≤ lU b bar P j t n u ∧ lU b bar P j t n u ≤ j + 1 := by
  unfold lU
  split
  · omega
  · have := lV_b (b := b) (bar := bar) (P := P) j (b (29 - j) (min 99 (t + P * u)) (n - u)) (n - u)
    omega
noncomputable def kV (g : gS) (x : Int) : Nat → Int → Int → Int := lV (bv g x) (gI g 218 10) (gI g 218 12)
noncomputable def kU (g : gS) (x : Int) : Nat → Int → Int → Int → Int := lU (bv g x) (gI g 218 10) (gI g 218 12)
/-- the memo is right -/
def Mm (g : gS) (x : Int) (s : gS) : Prop := ∀ (j : Nat) (t n : Int), 1 ≤ j → j ≤ 30 → 0 ≤ t ∧ t ≤ 99 → 0 ≤ n ∧ n ≤ 9 → gI s 228 (1000 * (30 - (j : Int)) + 10 * t + n).toNat = -1 ∨ gI s 228 (1000 * (30 - (j : Int)) + 10 * t + n).toNat = kV g x j t n
def Iv (p : gP) (g : gS) (x : Int) (s : gS) : Prop := J p s ∧ Em g s ∧ Mm g x s
theorem Mm_eg {x : Int} (h : Mm g x s) (hk : ∀ k, gI s' 228 k = gI s 228 k) : Mm g x s' := fun j t n h1 h2 h3 h4 => by rw [hk]; exact h j t n h1 h2 h3 h4
end Tu
