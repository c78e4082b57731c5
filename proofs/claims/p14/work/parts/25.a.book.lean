section Ra
variable {s : gS} {a k : Nat} {v : Int}
theorem rd_a {s' : gS} {b k' : Nat} (e : s' = gw s b k' v) (h : a ≠ b) : gI s' a k = gI s a k := by
  rw [e]
  show (if a = b ∧ k = k' then v else gI s a k) = gI s a k
  rw [if_neg (fun x => h x.1)]
end Ra
section Bk
variable {p : gP} {p1 p' : Int} {q : Int × Int × Int × Int} {s : gS} {a a0 a1 a2 r x : Nat} {v : Int}
theorem k0_36 : k0 36 = 0 := by decide +kernel
theorem J_9i (h : J p s) (t : T 0 a) : (if a = 36 then p.1 else 0) ≤ gI s a 9 ∧ gI s a 9 ≤ 50 :=
  h.1.2.2.1 a 9 t.1 (if a = 36 then p.1 else 0, 50) (by unfold cr; rw [t.2]; rfl)
theorem J_w9 (h : J p s) (t : T 0 a) (hv : (if a = 36 then p.1 else 0) ≤ v ∧ v ≤ 50) : J p (gw s a 9 v) := by
  have t9 := t.2
  refine ⟨J0_w h.1 (fun _ q hq => ?_), TKG_w h.2 ⟨fun e => by rw [e, k0_1] at t9; exact absurd t9 (by decide), fun e => by rw [e, k0_217] at t9; exact absurd t9 (by decide), fun e => by rw [e, k0_0] at t9; exact absurd t9 (by decide)⟩⟩
  unfold cr at hq
  rw [t.2] at hq
  cases hq
  exact hv
/-- only the draft's gain of a proof hangs on p -/
theorem J_p (h : J (p1, q) s) (hv : p' ≤ gI s 36 9) : J (p', q) s := by
  refine ⟨⟨h.1.1, h.1.2.1, fun b k hb q hq => ?_, h.1.2.2.2⟩, h.2⟩
  by_cases hc : k0 b < 13 ∧ (k0 b = 0 ∧ k = 9)
  · by_cases e : b = 36
    · subst e
      unfold cr at hq
      rw [if_pos hc.1, if_pos hc.2, if_pos rfl] at hq
      cases hq
      dsimp only
      rw [hc.2.2]
      exact ⟨hv, (J_9i h ⟨hb, hc.2.1⟩).2⟩
    · refine h.1.2.2.1 b k hb q ?_
      unfold cr at hq ⊢
      rw [if_pos hc.1, if_pos hc.2, if_neg e] at hq ⊢
      exact hq
  · refine h.1.2.2.1 b k hb q ?_
    unfold cr at hq ⊢
    by_cases h1 : k0 b < 13
    · rw [if_pos h1, if_neg (fun z => hc ⟨h1, z⟩)] at hq ⊢
      exact hq
    · rw [if_neg h1] at hq ⊢
      exact hq
theorem J_dn (h : J (0, q) s) (hp : p1 ≤ 0) : J (p1, q) s := J_p h (by have := (J_9i h ⟨(by decide : 36 < 232), k0_36⟩).1; rw [if_pos rfl] at this; omega)
theorem Jl_gwr (ha : a < 232) (h : Jl s x) : Jl (gwr s a 11 r) x := by
  have e : gR (gwr s a 11 r) x 1 = gR s x 1 := by
    show (if x = a ∧ 1 = 11 then r else gR s x 1) = _
    rw [if_neg (fun z => absurd z.2 (by decide))]
  obtain ⟨h1, h2, h3⟩ := h
  unfold Jl
  rw [e]
  exact ⟨h1, h2, h3⟩
theorem J_gwr (h : J p s) (t : T 0 a) (hr : r = 0 ∨ Jl s r) : J p (gwr s a 11 r) := by
  refine ⟨⟨h.1.1, fun b k hb hn => ?_, h.1.2.2.1, fun b hb h0 => ?_⟩, h.2⟩
  · show (if b = a ∧ k = 11 then r else gR s b k) = _
    rw [if_neg (fun z => hn ⟨by rw [z.1]; exact t.2, z.2⟩)]
    exact h.1.2.1 b k hb hn
  · have e : gR (gwr s a 11 r) b 11 = if b = a ∧ 11 = 11 then r else gR s b 11 := rfl
    rw [e]
    by_cases hc : b = a ∧ 11 = 11
    · rw [if_pos hc]
      exact hr.imp id (Jl_gwr t.1)
    · rw [if_neg hc]
      exact (h.1.2.2.2 b hb h0).imp id (Jl_gwr t.1)
theorem J_law (h : J p s) (t : T 0 a) : gR s a 11 = 0 ∨ Jl s (gR s a 11) := h.1.2.2.2 a t.1 t.2
/-- all of copyFrom but the gain's cell -/
theorem c_1 (h : J p s) (t0 : T 0 a0) (t1 : T 0 a1) (hx : (if a0 = 36 then p.1 else 0) ≤ gI s a1 9) : gT (f_1 a0 a1 s) (fun r => r.1 = 0 ∧ J p r.2.2.2 ∧ gI r.2.2.2 a0 9 = gI s a1 9) := by
  unfold f_1
  extract_lets s1 s2 s3 s4 s5 s6 s7 s8 s9 s10 s11 s12
  have j1 : J p s1 := J_ca h (T_f (i := 0) h t0 (by decide) rfl rfl) rfl
  have j2 : J p s2 := J_ca j1 (T_f (i := 1) j1 t0 (by decide) rfl rfl) rfl
  have j3 : J p s3 := J_ca j2 (T_f (i := 2) j2 t0 (by decide) rfl rfl) rfl
  have j4 : J p s4 := J_ca j3 (T_f (i := 3) j3 t0 (by decide) rfl rfl) rfl
  have j5 : J p s5 := J_ca j4 (T_f (i := 4) j4 t0 (by decide) rfl rfl) rfl
  have b5 := J_f (i := 5) j5 t1 rfl (by decide) rfl
  have j6 : J p s6 := J_wf j5 t0 rfl (by decide) (by decide) (fun q9 hq => by cases hq; exact b5)
  have b6 := J_f (i := 6) j6 t1 rfl (by decide) rfl
  have j7 : J p s7 := J_wf j6 t0 rfl (by decide) (by decide) (fun q9 hq => by cases hq; exact b6)
  have j8 : J p s8 := J_wf j7 t0 rfl (by decide) (by decide) (fun q9 hq => by cases hq)
  have j9 : J p s9 := J_wf j8 t0 rfl (by decide) (by decide) (fun q9 hq => by cases hq)
  have e1 : gI s1 a1 9 = gI s a1 9 := rd_c (a := a1) (k := 9) (show s1 = gcpy s (gR s a1 0) 0 (gR s a0 0) 0 8 from rfl) t1 (T_f (i := 0) h t0 (by decide) rfl rfl) (by decide)
  have e2 : gI s2 a1 9 = gI s1 a1 9 := rd_c (a := a1) (k := 9) (show s2 = gcpy s1 (gR s1 a1 1) 0 (gR s1 a0 1) 0 8 from rfl) t1 (T_f (i := 1) j1 t0 (by decide) rfl rfl) (by decide)
  have e3 : gI s3 a1 9 = gI s2 a1 9 := rd_c (a := a1) (k := 9) (show s3 = gcpy s2 (gR s2 a1 2) 0 (gR s2 a0 2) 0 8 from rfl) t1 (T_f (i := 2) j2 t0 (by decide) rfl rfl) (by decide)
  have e4 : gI s4 a1 9 = gI s3 a1 9 := rd_c (a := a1) (k := 9) (show s4 = gcpy s3 (gR s3 a1 3) 0 (gR s3 a0 3) 0 6 from rfl) t1 (T_f (i := 3) j3 t0 (by decide) rfl rfl) (by decide)
  have e5 : gI s5 a1 9 = gI s4 a1 9 := rd_c (a := a1) (k := 9) (show s5 = gcpy s4 (gR s4 a1 4) 0 (gR s4 a0 4) 0 6 from rfl) t1 (T_f (i := 4) j4 t0 (by decide) rfl rfl) (by decide)
  have e6 : gI s6 a1 9 = gI s5 a1 9 := rd_k (a := a1) (k := 9) (show s6 = gw s5 a0 5 (gI s5 a1 5) from rfl) (by decide)
  have e7 : gI s7 a1 9 = gI s6 a1 9 := rd_k (a := a1) (k := 9) (show s7 = gw s6 a0 6 (gI s6 a1 6) from rfl) (by decide)
  have e8 : gI s8 a1 9 = gI s7 a1 9 := rd_k (a := a1) (k := 9) (show s8 = gw s7 a0 7 (gI s7 a1 7) from rfl) (by decide)
  have e9 : gI s9 a1 9 = gI s8 a1 9 := rd_k (a := a1) (k := 9) (show s9 = gw s8 a0 8 (gI s8 a1 8) from rfl) (by decide)
  have e : gI s9 a1 9 = gI s a1 9 := by omega
  have b9 := (J_9i h t1).2
  have j10 : J p s10 := J_w9 j9 t0 (by rw [e]; exact ⟨hx, b9⟩)
  have e10 : gI s10 a0 9 = gI s9 a1 9 := rd_same (show s10 = gw s9 a0 9 (gI s9 a1 9) from rfl)
  have e11 : gI s11 a0 9 = gI s10 a0 9 := rd_k (a := a0) (k := 9) (show s11 = gw s10 a0 10 (gI s10 a1 10) from rfl) (by decide)
  have j11 : J p s11 := J_wf j10 t0 rfl (by decide) (by decide) (fun q9 hq => by cases hq)
  exact gT_ret ⟨rfl, J_gwr j11 t0 (J_law j11 t1), by show gI s11 a0 9 = _; omega⟩
theorem d_20 (h : J (0, q) s) (t0 : T 1 a0) (t1 : T 0 a1) (e1 : a1 = 36) : gT (f_20 a0 a1 s) (fun r => r.1 = 1 ∧ (0 ≤ r.2.1 ∧ r.2.1 ≤ 1) ∧ J (-1, q) r.2.2.2 ∧ (r.2.1 = 1 → J (0, q) r.2.2.2)) := by
  have hp : (-1 : Int) ≤ 0 ∧ (0 : Int) ≤ 0 := by decide
  unfold f_20
  refine gT_v1 (A := fun v u => (0 ≤ v ∧ v ≤ 1) ∧ J (0, q) u) (d_80 hp h (T_f (i := 0) h t0 (by decide) rfl rfl)) (fun v2 s1 h1 => ?_)
  obtain ⟨-, j1⟩ := h1
  refine gT_ite (fun _ => ?_) (fun _ => ?_)
  · refine gT_v1 (A := fun v u => (0 ≤ v ∧ v ≤ 1) ∧ J (0, q) u) (d_80 hp j1 (T_f (i := 0) j1 t0 (by decide) rfl rfl)) (fun v5 s4 h4 => ?_)
    obtain ⟨-, j4⟩ := h4
    refine gT_ite (fun _ => ?_) (fun _ => ?_)
    · refine gT_v1 (A := fun v u => (0 ≤ v ∧ v ≤ 1) ∧ J (0, q) u) (d_80 hp j4 (T_f (i := 0) j4 t0 (by decide) rfl rfl)) (fun v8 s7 h7 => ?_)
      obtain ⟨-, j7⟩ := h7
      refine gT_ite (fun _ => gT_ret ⟨rfl, by first | decide | omega | (dsimp only; omega), J_dn j7 (by decide), fun e => absurd e (by first | decide | omega | (dsimp only; omega))⟩) (fun _ => ?_)
      refine gT_v1 (A := fun v u => (v = -1 ∨ (0 ≤ v ∧ v ≤ 50)) ∧ True ∧ J (0, q) u) (d_13 hp j7 t0) (fun v11 s10 h10 => ?_)
      obtain ⟨e10, -, j10⟩ := h10
      extract_lets s12
      have j12 : J (-1, q) s12 := J_w9 (J_dn j10 (by decide)) t1 (by rw [if_pos e1]; omega)
      have e12 : gI s12 a1 9 = v11 := rd_same (show s12 = gw s10 a1 9 v11 from rfl)
      refine gT_ite (fun _ => gT_ret ⟨rfl, by first | decide | omega | (dsimp only; omega), j12, fun e => absurd e (by first | decide | omega | (dsimp only; omega))⟩) (fun hn => gT_ret ⟨rfl, by first | decide | omega | (dsimp only; omega), j12, fun _ => J_p j12 ?_⟩)
      rw [e1] at e12 hn
      show 0 ≤ gI s12 36 9
      omega
    · refine gT_v1 (A := fun v u => (v = -1 ∨ (0 ≤ v ∧ v ≤ 100)) ∧ True ∧ J (0, q) u) (d_13 hp j4 t0) (fun v14 s13 h13 => ?_)
      obtain ⟨-, -, j13⟩ := h13
      extract_lets s15
      have j15 : J (0, q) s15 := J_wf j13 t1 rfl (by decide) (by decide) (fun q9 hq => by cases hq)
      exact gT_ite (fun _ => gT_ret ⟨rfl, by first | decide | omega | (dsimp only; omega), J_dn j15 (by decide), fun _ => j15⟩) (fun hn => gT_ret ⟨rfl, by first | decide | omega | (dsimp only; omega), J_dn j15 (by decide), fun _ => j15⟩)
  · refine gT_v1 (A := fun v u => (v = -1 ∨ (0 ≤ v ∧ v ≤ 99)) ∧ True ∧ J (0, q) u) (d_13 hp j1 t0) (fun v17 s16 h16 => ?_)
    obtain ⟨-, -, j16⟩ := h16
    extract_lets s18
    have j18 : J (0, q) s18 := J_wf j16 t1 rfl (by decide) (by decide) (fun q9 hq => by cases hq)
    exact gT_ite (fun _ => gT_ret ⟨rfl, by first | decide | omega | (dsimp only; omega), J_dn j18 (by decide), fun _ => j18⟩) (fun hn => gT_ret ⟨rfl, by first | decide | omega | (dsimp only; omega), J_dn j18 (by decide), fun _ => j18⟩)
/-- the end of a line that wrote no rule -/
theorem d12_e {z : Option gO} {E : gS → Option gO} (hz : gT z (fun r => r.1 = 1 ∧ (0 ≤ r.2.1 ∧ r.2.1 ≤ 1) ∧ J (0, q) r.2.2.2)) (hE : ∀ u, E u = some (1, 0, 0, u)) : gT (z.bind (gv1 (fun v u => if v = 0 then E u else some (1, 1, 0, u)))) (fun r => r.1 = 1 ∧ (0 ≤ r.2.1 ∧ r.2.1 ≤ 1) ∧ J (-1, q) r.2.2.2 ∧ (r.2.1 = 1 → J (0, q) r.2.2.2)) := by
  refine gT_v1 (A := fun v u => (0 ≤ v ∧ v ≤ 1) ∧ J (0, q) u) hz (fun v u hv => ?_)
  refine gT_ite (fun _ => ?_) (fun _ => gT_ret ⟨rfl, by first | decide | omega | (dsimp only; omega), J_dn hv.2 (by decide), fun _ => hv.2⟩)
  rw [hE]
  exact gT_ret ⟨rfl, by first | decide | omega | (dsimp only; omega), J_dn hv.2 (by decide), fun _ => hv.2⟩
theorem d12_z (h : J (0, q) s) : gT (some (1, 0, 0, s)) (fun r : gO => r.1 = 1 ∧ (0 ≤ r.2.1 ∧ r.2.1 ≤ 1) ∧ J (-1, q) r.2.2.2 ∧ (r.2.1 = 1 → J (0, q) r.2.2.2)) := gT_ret ⟨rfl, by first | decide | omega | (dsimp only; omega), J_dn h (by decide), fun _ => h⟩
theorem d_12 (h : J (0, q) s) (t0 : T 1 a0) (t1 : T 0 a1) (t2 : T 2 a2) (e1 : a1 = 36) : gT (f_12 a0 a1 a2 s) (fun r => r.1 = 1 ∧ (0 ≤ r.2.1 ∧ r.2.1 ≤ 1) ∧ J (-1, q) r.2.2.2 ∧ (r.2.1 = 1 → J (0, q) r.2.2.2)) := by
  have hp : (-1 : Int) ≤ 0 ∧ (0 : Int) ≤ 0 := by decide
  unfold f_12
  refine gT_v1 (A := fun v u => (0 ≤ v ∧ v ≤ 1) ∧ J (0, q) u) (d_80 hp h (T_f (i := 0) h t0 (by decide) rfl rfl)) (fun v2 s1 h1 => ?_)
  obtain ⟨-, j1⟩ := h1
  refine gT_ite (fun _ => ?_) (fun _ => ?_)
  rotate_left
  · exact gT_ite (fun _ => d12_e (d_15 hp j1 t0 t1) (fun _ => rfl)) (fun _ => d12_z j1)
  refine gT_v1 (A := fun v u => (0 ≤ v ∧ v ≤ 1) ∧ J (0, q) u) (d_80 hp j1 (T_f (i := 0) j1 t0 (by decide) rfl rfl)) (fun v5 s4 h4 => ?_)
  obtain ⟨-, j4⟩ := h4
  refine gT_ite (fun _ => ?_) (fun _ => ?_)
  rotate_left
  · exact gT_ite (fun _ => d12_e (d_16 hp j4 t0 t2) (fun _ => rfl)) (fun _ => d12_z j4)
  refine gT_v1 (A := fun v u => (0 ≤ v ∧ v ≤ 1) ∧ J (0, q) u) (d_80 hp j4 (T_f (i := 0) j4 t0 (by decide) rfl rfl)) (fun v8 s7 h7 => ?_)
  obtain ⟨-, j7⟩ := h7
  refine gT_ite (fun _ => ?_) (fun _ => ?_)
  rotate_left
  · exact gT_ite (fun _ => d12_e (d_17 hp j7 t0 t1) (fun _ => rfl)) (fun _ => d12_z j7)
  refine gT_v1 (A := fun v u => (0 ≤ v ∧ v ≤ 1) ∧ J (0, q) u) (d_80 hp j7 (T_f (i := 0) j7 t0 (by decide) rfl rfl)) (fun v11 s10 h10 => ?_)
  obtain ⟨-, j10⟩ := h10
  refine gT_ite (fun _ => ?_) (fun _ => ?_)
  rotate_left
  · exact gT_ite (fun _ => d12_e (d_18 hp j10 t0 t2) (fun _ => rfl)) (fun _ => d12_z j10)
  refine gT_v1 (A := fun v u => (0 ≤ v ∧ v ≤ 1) ∧ J (0, q) u) (d_80 hp j10 (T_f (i := 0) j10 t0 (by decide) rfl rfl)) (fun v14 s13 h13 => ?_)
  obtain ⟨-, j13⟩ := h13
  refine gT_ite (fun _ => ?_) (fun _ => ?_)
  · refine gT_v1 (A := fun v u => (0 ≤ v ∧ v ≤ 1) ∧ J (-1, q) u ∧ (v = 1 → J (0, q) u)) (d_20 j13 t0 t1 e1) (fun v17 s16 h16 => ?_)
    exact gT_ret ⟨rfl, h16⟩
  · refine gT_v1 (A := fun v u => (0 ≤ v ∧ v ≤ 1) ∧ J (0, q) u) (d_19 hp j13 t0 t2) (fun v20 s19 h19 => ?_)
    exact gT_ret ⟨rfl, h19.1, J_dn h19.2 (by decide), fun _ => h19.2⟩
theorem d_11 (h : J (0, q) s) (t0 : T 1 a0) (t1 : T 0 a1) (t2 : T 2 a2) (e1 : a1 = 36) : gT (f_11 a0 a1 a2 s) (fun r => r.1 = 1 ∧ (0 ≤ r.2.1 ∧ r.2.1 ≤ 1) ∧ J (-1, q) r.2.2.2 ∧ (r.2.1 = 1 → J (0, q) r.2.2.2)) := by
  have hp : (-1 : Int) ≤ 0 ∧ (0 : Int) ≤ 0 := by decide
  have hq : (-1 : Int) ≤ -1 ∧ (-1 : Int) ≤ 0 := by decide
  unfold f_11
  refine gT_v0 (A := fun u => J (0, q) u) (d_77 hp h (T_f (i := 0) h t0 (by decide) rfl rfl)) (fun s1 j1 => ?_)
  refine gT_v1 (A := fun v u => (0 ≤ v ∧ v ≤ 1) ∧ J (0, q) u) (d_79 hp j1 (T_f (i := 0) j1 t0 (by decide) rfl rfl)) (fun v4 s3 h3 => ?_)
  obtain ⟨-, j3⟩ := h3
  refine gT_ite (fun _ => ?_) (fun _ => gT_ret ⟨rfl, by first | decide | omega | (dsimp only; omega), J_dn j3 (by decide), fun _ => j3⟩)
  refine gT_loop (fun y => T 1 y.1 ∧ T 0 y.2.1 ∧ y.2.1 = 36 ∧ T 2 y.2.2.1 ∧ (0 ≤ y.2.2.2.1 ∧ y.2.2.2.1 ≤ 14) ∧ J (0, q) y.2.2.2.2) (fun y => (14 - y.2.2.2.1).toNat) (fun y hy => ?_) ⟨t0, t1, e1, t2, by first | decide | omega | (dsimp only; omega), j3⟩
  obtain ⟨x0, x1, x2, x3, s⟩ := y
  obtain ⟨t0, t1, e1, t2, r3, h⟩ := hy
  dsimp only at t0 t1 e1 t2 r3 h
  show gT (sb_11_21 x0 x1 x2 x3 s) _
  unfold sb_11_21
  refine gT_ite (fun h3 => ?_) (fun _ => gT_map (d12_z h))
  refine gT_v1 (A := fun v u => (0 ≤ v ∧ v ≤ 1) ∧ J (-1, q) u ∧ (v = 1 → J (0, q) u)) (d_12 h t0 t1 t2 e1) (fun v7 s6 h6 => ?_)
  obtain ⟨r7, j6, g6⟩ := h6
  refine gT_ite (fun _ => gT_map (gT_ret ⟨rfl, by first | decide | omega | (dsimp only; omega), j6, fun e => absurd e (by first | decide | omega | (dsimp only; omega))⟩)) (fun hn => ?_)
  have k6 := g6 (by omega)
  refine gT_v1 (A := fun v u => (0 ≤ v ∧ v ≤ 1) ∧ J (0, q) u) (d_79 hp k6 (T_f (i := 0) k6 t0 (by decide) rfl rfl)) (fun v10 s9 h9 => ?_)
  obtain ⟨-, j9⟩ := h9
  refine gT_ite (fun _ => ?_) (fun _ => gT_map (gT_ret ⟨rfl, by first | decide | omega | (dsimp only; omega), J_dn j9 (by decide), fun _ => j9⟩))
  refine gT_v1 (A := fun v u => (0 ≤ v ∧ v ≤ 1) ∧ J (0, q) u) (d_83 hp j9 (T_f (i := 0) j9 t0 (by decide) rfl rfl)) (fun v13 s12 h12 => ?_)
  obtain ⟨-, j12⟩ := h12
  have e3 := g32_eq (v := x3 + 1) (by omega) (by omega)
  refine gT_ite (fun _ => gT_map (d12_z j12)) (fun _ => gT_ret ⟨⟨t0, t1, e1, t2, by dsimp only; omega, j12⟩, by dsimp only; omega⟩)
theorem d_89 (h : J (-1, q) s) (t0 : T 11 a0) : gT (f_89 a0 s) (fun r => (r.1 = 1 ∧ True ∧ J (-1, 0, q.2) r.2.2.2) ∨ (2 ≤ r.1 ∧ r.1 ≤ 6 ∧ (r.1 = 2 ∨ r.1 = 3) ∧ J (-1, 0, q.2) r.2.2.2)) := by
  have hp : (-1 : Int) ≤ 0 ∧ (0 : Int) ≤ 0 := by decide
  have hq : (-1 : Int) ≤ -1 ∧ (-1 : Int) ≤ 0 := by decide
  have e0 := T_11 t0
  subst e0
  have r8 : ∀ {p : gP} {u : gS}, J p u → gR u 0 8 = 36 := fun hu => J_r hu rfl (by decide +kernel) (by decide +kernel)
  have r4 : ∀ {p : gP} {u : gS}, J p u → gR u 0 4 = 9 := fun hu => J_r hu rfl (by decide +kernel) (by decide +kernel)
  unfold f_89
  have t8 := T_f (i := 8) h t0 (by decide) rfl rfl
  have t4 := T_f (i := 4) h t0 (by decide) rfl rfl
  have b9 := J_9i h t4
  rw [r4 h, if_neg (by decide)] at b9
  refine gT_v0 (A := fun u => J (-1, q) u ∧ 0 ≤ gI u 36 9) (gT_mono (c_1 h t8 t4 (by rw [r8 h, if_pos rfl, r4 h]; omega)) (fun r hr => ⟨hr.1, hr.2.1, by have := hr.2.2; rw [r8 h, r4 h] at this; omega⟩)) (fun s1 h1 => ?_)
  have j1 : J (0, q) s1 := J_p h1.1 h1.2
  refine gT_v0 (A := fun u => J (0, q) u) (d_23 hp j1 (T_f (i := 9) j1 t0 (by decide) rfl rfl) (T_f (i := 5) j1 t0 (by decide) rfl rfl)) (fun s3 j3 => ?_)
  refine gT_v1 (A := fun v u => (0 ≤ v ∧ v ≤ 1) ∧ J (-1, q) u ∧ (v = 1 → J (0, q) u)) (d_11 j3 (T_f (i := 2) j3 t0 (by decide) rfl rfl) (T_f (i := 8) j3 t0 (by decide) rfl rfl) (T_f (i := 9) j3 t0 (by decide) rfl rfl) (r8 j3)) (fun v6 s5 h5 => ?_)
  obtain ⟨r6, j5, g5⟩ := h5
  have hend : ∀ w : Int, gT (fb_89_54 0 v6 w 0 s5) (fun r => (r.1 = 1 ∧ True ∧ J (-1, 0, q.2) r.2.2.2) ∨ (2 ≤ r.1 ∧ r.1 ≤ 6 ∧ (r.1 = 2 ∨ r.1 = 3) ∧ J (-1, 0, q.2) r.2.2.2)) := by
    intro w
    unfold fb_89_54
    extract_lets s8 s9
    have j8 : J (-1, q) s8 := J_wf j5 t0 rfl (by decide) (by decide) (fun q9 hq => by cases hq)
    have j9 : J (-1, 0, q.2) s9 := J_l j8 (T_f (i := 0) j8 t0 (by decide) rfl rfl) (by decide)
    refine gT_ite (fun _ => gT_ret (Or.inr ⟨by first | decide | omega | (dsimp only; omega), by first | decide | omega | (dsimp only; omega), Or.inl rfl, J_nw j9⟩)) (fun hn => ?_)
    have k5 := g5 (by omega)
    have k8 : J (0, q) s8 := J_wf k5 t0 rfl (by decide) (by decide) (fun q9 hq => by cases hq)
    have k9 : J (0, 0, q.2) s9 := J_l k8 (T_f (i := 0) k8 t0 (by decide) rfl rfl) (by decide)
    refine gT_ite (fun _ => ?_) (fun _ => gT_ret (Or.inr ⟨by first | decide | omega | (dsimp only; omega), by first | decide | omega | (dsimp only; omega), Or.inr rfl, J_nw j9⟩))
    have u4 := T_f (i := 4) k9 t0 (by decide) rfl rfl
    have u8 := T_f (i := 8) k9 t0 (by decide) rfl rfl
    have c9 := J_9i k9 u8
    rw [r8 k9, if_pos rfl] at c9
    refine gT_v0 (A := fun u => J (0, 0, q.2) u) (gT_mono (c_1 k9 u4 u8 (by rw [r4 k9, if_neg (by decide), r8 k9]; omega)) (fun r hr => ⟨hr.1, hr.2.1⟩)) (fun s10 j10 => ?_)
    extract_lets s12
    have j12 : J (0, 0, q.2) s12 := J_wf j10 (T_f (i := 4) j10 t0 (by decide) rfl rfl) rfl (by decide) (by decide) (fun q9 hq => by cases hq)
    refine gT_v0 (A := fun u => J (0, 0, q.2) u) (d_23 hp j12 (T_f (i := 5) j12 t0 (by decide) rfl rfl) (T_f (i := 9) j12 t0 (by decide) rfl rfl)) (fun s13 j13 => ?_)
    extract_lets s15
    have j15 : J (0, 0, q.2) s15 := J_wf j13 t0 rfl (by decide) (by decide) (fun q9 hq => by cases hq)
    exact gT_ret (Or.inl ⟨rfl, trivial, J_dn j15 (by decide)⟩)
  exact gT_ite (fun _ => hend _) (fun _ => hend _)
theorem d_131 (hp : -1 ≤ p.1 ∧ p.1 ≤ 0) (h : J p s) (t0 : T 11 a0) : gT (f_131 a0 s) (fun r => r.1 = 0 ∧ J (p.1, p.2.1, p.2.2.1, 1, p.2.2.2.2) r.2.2.2) := by
  have e0 := T_11 t0
  subst e0
  have r10 : gR s 0 10 = 54 := J_r h rfl (by decide +kernel) (by decide +kernel)
  have r4 : gR s 0 4 = 9 := J_r h rfl (by decide +kernel) (by decide +kernel)
  have t4 := T_f (i := 4) h t0 (by decide) rfl rfl
  have b9 := J_9i h t4
  rw [r4, if_neg (by decide)] at b9
  unfold f_131
  refine gT_v0 (A := fun u => J p u) (gT_mono (c_1 h (T_f (i := 10) h t0 (by decide) rfl rfl) t4 (by rw [r10, if_neg (by decide), r4]; omega)) (fun r hr => ⟨hr.1, hr.2.1⟩)) (fun s1 j1 => ?_)
  refine gT_v0 (A := fun u => J p u) (d_22 hp j1 (T_f (i := 11) j1 t0 (by decide) rfl rfl) (T_f (i := 5) j1 t0 (by decide) rfl rfl)) (fun s3 j3 => ?_)
  refine gT_bool (by decide) ?_
  extract_lets s5
  exact gT_ret ⟨rfl, J_i j3 t0⟩
theorem d_132 (hp : -1 ≤ p.1 ∧ p.1 ≤ 0) (h : J p s) (t0 : T 11 a0) : gT (f_132 a0 s) (fun r => r.1 = 1 ∧ (0 ≤ r.2.1 ∧ r.2.1 ≤ 1) ∧ J p r.2.2.2) := by
  have e0 := T_11 t0
  subst e0
  have r10 : gR s 0 10 = 54 := J_r h rfl (by decide +kernel) (by decide +kernel)
  have r4 : gR s 0 4 = 9 := J_r h rfl (by decide +kernel) (by decide +kernel)
  have t10 := T_f (i := 10) h t0 (by decide) rfl rfl
  have b9 := J_9i h t10
  rw [r10, if_neg (by decide)] at b9
  unfold f_132
  refine gT_ite (fun _ => gT_ret ⟨rfl, by first | decide | omega | (dsimp only; omega), h⟩) (fun _ => ?_)
  refine gT_v0 (A := fun u => J p u) (gT_mono (c_1 h (T_f (i := 4) h t0 (by decide) rfl rfl) t10 (by rw [r4, if_neg (by decide), r10]; omega)) (fun r hr => ⟨hr.1, hr.2.1⟩)) (fun s1 j1 => ?_)
  refine gT_v0 (A := fun u => J p u) (d_22 hp j1 (T_f (i := 5) j1 t0 (by decide) rfl rfl) (T_f (i := 11) j1 t0 (by decide) rfl rfl)) (fun s3 j3 => ?_)
  extract_lets s5
  exact gT_ret ⟨rfl, by first | decide | omega | (dsimp only; omega), J_wf j3 t0 rfl (by decide) (by decide) (fun q9 hq => by cases hq)⟩
end Bk
