section
section Ra
variable {s : gS} {a k : Nat} {v : Int}
theorem rd_a {s' : gS} {b k' : Nat} (e : s' = gw s b k' v) (h : a ≠ b) : gI s' a k = gI s a k := by
  rw [e]
  show (if a = b ∧ k = k' then v else gI s a k) = gI s a k
  rw [if_neg (fun x => h x.1)]
end Ra
section Bk
variable {p : gP} {p1 p' : Int} {q : Int × Int × Int × Int} {s : gS} {a a0 a1 a2 r x : Nat} {v : Int}
theorem k0_36 : k0 36 = 0 := by decide +kernel
theorem J_9i (h : J p s) (t : T 0 a) : (if a = 36 then p.1 else 0) ≤ gI s a 9 ∧ gI s a 9 ≤ 50 :=
  h.1.2.2.1 a 9 t.1 (if a = 36 then p.1 else 0, 50) (by unfold cr; rw [t.2]; rfl)
theorem J_w9 (h : J p s) (t : T 0 a) (hv : (if a = 36 then p.1 else 0) ≤ v ∧ v ≤ 50) : J p (gw s a 9 v) := by
  have t9 := t.2
  refine ⟨J0_w h.1 (fun _ q hq => ?_), TKG_w h.2 ⟨fun e => by rw [e, k0_1] at t9; exact absurd t9 (by decide), fun e => by rw [e, k0_217] at t9; exact absurd t9 (by decide), fun e => by rw [e, k0_0] at t9; exact absurd t9 (by decide)⟩⟩
  unfold cr at hq
  rw [t.2] at hq
  cases hq
  exact hv
/-- only the draft's gain of a proof hangs on p -/
theorem J_p (h : J (p1, q) s) (hv : p' ≤ gI s 36 9) : J (p', q) s := by
  refine ⟨⟨h.1.1, h.1.2.1, fun b k hb q hq => ?_, h.1.2.2.2⟩, h.2⟩
  by_cases hc : k0 b < 13 ∧ (k0 b = 0 ∧ k = 9)
  · by_cases e : b = 36
    · subst e
      unfold cr at hq
      rw [if_pos hc.1, if_pos hc.2, if_pos rfl] at hq
      cases hq
      dsimp only
      rw [hc.2.2]
      exact ⟨hv, (J_9i h ⟨hb, hc.2.1⟩).2⟩
    · refine h.1.2.2.1 b k hb q ?_
      unfold cr at hq ⊢
      rw [if_pos hc.1, if_pos hc.2, if_neg e] at hq ⊢
      exact hq
  · refine h.1.2.2.1 b k hb q ?_
    unfold cr at hq ⊢
    by_cases h1 : k0 b < 13
    · rw [if_pos h1, if_neg (fun z => hc ⟨h1, z⟩)] at hq ⊢
      exact hq
    · rw [if_neg h1] at hq ⊢
      exact hq
theorem J_dn (h : J (0, q) s) (hp : p1 ≤ 0) : J (p1, q) s := J_p h (by have := (J_9i h ⟨(by decide : 36 < 232), k0_36⟩).1; rw [if_pos rfl] at this; omega)
theorem Jl_gwr (ha : a < 232) (h : Jl s x) : Jl (gwr s a 11 r) x := by
  have e : gR (gwr s a 11 r) x 1 = gR s x 1 := by
    show (if x = a ∧ 1 = 11 then r else gR s x 1) = _
    rw [if_neg (fun z => absurd z.2 (by decide))]
  obtain ⟨h1, h2, h3⟩ := h
  unfold Jl
  rw [e]
  exact ⟨h1, h2, h3⟩
theorem J_gwr (h : J p s) (t : T 0 a) (hr : r = 0 ∨ Jl s r) : J p (gwr s a 11 r) := by
  refine ⟨⟨h.1.1, fun b k hb hn => ?_, h.1.2.2.1, fun b hb h0 => ?_⟩, h.2⟩
  · show (if b = a ∧ k = 11 then r else gR s b k) = _
    rw [if_neg (fun z => hn ⟨by rw [z.1]; exact t.2, z.2⟩)]
    exact h.1.2.1 b k hb hn
  · have e : gR (gwr s a 11 r) b 11 = if b = a ∧ 11 = 11 then r else gR s b 11 := rfl
    rw [e]
    by_cases hc : b = a ∧ 11 = 11
    · rw [if_pos hc]
      exact hr.imp id (Jl_gwr t.1)
    · rw [if_neg hc]
      exact (h.1.2.2.2 b hb h0).imp id (Jl_gwr t.1)
theorem J_law (h : J p s) (t : T 0 a) : gR s a 11 = 0 ∨ Jl s (gR s a 11) := h.1.2.2.2 a t.1 t.2
/-- all of copyFrom but the gain's cell -/
theorem c_1 (h : J p s) (t0 : T 0 a0) (t1 : T 0 a1) (hx : (if a0 = 36 then p.1 else 0) ≤ gI s a1 9) : gT (f_1 a0 a1 s) (fun r => r.1 = 0 ∧ J p r.2.2.2 ∧ gI r.2.2.2 a0 9 = gI s a1 9) := by
  unfold f_1
  extract_lets s1 s2 s3 s4 s5 s6 s7 s8 s9 s10 s11 s12
  have j1 : J p s1 := J_ca h (T_f (i := 0) h t0 (by decide) rfl rfl) rfl
  have j2 : J p s2 := J_ca j1 (T_f (i := 1) j1 t0 (by decide) rfl rfl) rfl
  have j3 : J p s3 := J_ca j2 (T_f (i := 2) j2 t0 (by decide) rfl rfl) rfl
  have j4 : J p s4 := J_ca j3 (T_f (i := 3) j3 t0 (by decide) rfl rfl) rfl
  have j5 : J p s5 := J_ca j4 (T_f (i := 4) j4 t0 (by decide) rfl rfl) rfl
  have b5 := J_f (i := 5) j5 t1 rfl (by decide) rfl
  have j6 : J p s6 := J_wf j5 t0 rfl (by decide) (by decide) (fun q9 hq => by cases hq; exact b5)
  have b6 := J_f (i := 6) j6 t1 rfl (by decide) rfl
  have j7 : J p s7 := J_wf j6 t0 rfl (by decide) (by decide) (fun q9 hq => by cases hq; exact b6)
  have j8 : J p s8 := J_wf j7 t0 rfl (by decide) (by decide) (fun q9 hq => by cases hq)
  have j9 : J p s9 := J_wf j8 t0 rfl (by decide) (by decide) (fun q9 hq => by cases hq)
  have e1 : gI s1 a1 9 = gI s a1 9 := rd_c (a := a1) (k := 9) (show s1 = gcpy s (gR s a1 0) 0 (gR s a0 0) 0 8 from rfl) t1 (T_f (i := 0) h t0 (by decide) rfl rfl) (by decide)
  have e2 : gI s2 a1 9 = gI s1 a1 9 := rd_c (a := a1) (k := 9) (show s2 = gcpy s1 (gR s1 a1 1) 0 (gR s1 a0 1) 0 8 from rfl) t1 (T_f (i := 1) j1 t0 (by decide) rfl rfl) (by decide)
  have e3 : gI s3 a1 9 = gI s2 a1 9 := rd_c (a := a1) (k := 9) (show s3 = gcpy s2 (gR s2 a1 2) 0 (gR s2 a0 2) 0 8 from rfl) t1 (T_f (i := 2) j2 t0 (by decide) rfl rfl) (by decide)
  have e4 : gI s4 a1 9 = gI s3 a1 9 := rd_c (a := a1) (k := 9) (show s4 = gcpy s3 (gR s3 a1 3) 0 (gR s3 a0 3) 0 6 from rfl) t1 (T_f (i := 3) j3 t0 (by decide) rfl rfl) (by decide)
  have e5 : gI s5 a1 9 = gI s4 a1 9 := rd_c (a := a1) (k := 9) (show s5 = gcpy s4 (gR s4 a1 4) 0 (gR s4 a0 4) 0 6 from rfl) t1 (T_f (i := 4) j4 t0 (by decide) rfl rfl) (by decide)
  have e6 : gI s6 a1 9 = gI s5 a1 9 := rd_k (a := a1) (k := 9) (show s6 = gw s5 a0 5 (gI s5 a1 5) from rfl) (by decide)
  have e7 : gI s7 a1 9 = gI s6 a1 9 := rd_k (a := a1) (k := 9) (show s7 = gw s6 a0 6 (gI s6 a1 6) from rfl) (by decide)
  have e8 : gI s8 a1 9 = gI s7 a1 9 := rd_k (a := a1) (k := 9) (show s8 = gw s7 a0 7 (gI s7 a1 7) from rfl) (by decide)
  have e9 : gI s9 a1 9 = gI s8 a1 9 := rd_k (a := a1) (k := 9) (show s9 = gw s8 a0 8 (gI s8 a1 8) from rfl) (by decide)
  have e : gI s9 a1 9 = gI s a1 9 := by omega
  have b9 := (J_9i h t1).2
  have j10 : J p s10 := J_w9 j9 t0 (by rw [e]; exact ⟨hx, b9⟩)
  have e10 : gI s10 a0 9 = gI s9 a1 9 := rd_same (show s10 = gw s9 a0 9 (gI s9 a1 9) from rfl)
  have e11 : gI s11 a0 9 = gI s10 a0 9 := rd_k (a := a0) (k := 9) (show s11 = gw s10 a0 10 (gI s10 a1 10) from rfl) (by decide)
  have j11 : J p s11 := J_wf j10 t0 rfl (by decide) (by decide) (fun q9 hq => by cases hq)
  exact gT_ret ⟨rfl, J_gwr j11 t0 (J_law j11 t1), by show gI s11 a0 9 = _; omega⟩
theorem d_20 (h : J (0, q) s) (t0 : T 1 a0) (t1 : T 0 a1) (e1 : a1 = 36) : gT (f_20 a0 a1 s) (fun r => r.1 = 1 ∧ (0 ≤ r.2.1 ∧ r.2.1 ≤ 1) ∧ J (-1, q) r.2.2.2 ∧ (r.2.1 = 1 → J (0, q) r.2.2.2)) := by
  have hp : (-1 : Int) ≤ 0 ∧ (0 : Int) ≤ 0 := by decide
  unfold f_20
  refine gT_v1 (A := fun v u => (0 ≤ v ∧ v ≤ 1) ∧ J (0, q) u) (d_80 hp h (T_f (i := 0) h t0 (by decide) rfl rfl)) (fun v2 s1 h1 => ?_)
  obtain ⟨-, j1⟩ := h1
  refine gT_ite (fun _ => ?_) (fun _ => ?_)
  · refine gT_v1 (A := fun v u => (0 ≤ v ∧ v ≤ 1) ∧ J (0, q) u) (d_80 hp j1 (T_f (i := 0) j1 t0 (by decide) rfl rfl)) (fun v5 s4 h4 => ?_)
    obtain ⟨-, j4⟩ := h4
    refine gT_ite (fun _ => ?_) (fun _ => ?_)
    · refine gT_v1 (A := fun v u => (0 ≤ v ∧ v ≤ 1) ∧ J (0, q) u) (d_80 hp j4 (T_f (i := 0) j4 t0 (by decide) rfl rfl)) (fun v8 s7 h7 => ?_)
      obtain ⟨-, j7⟩ := h7
      refine gT_ite (fun _ => gT_ret ⟨rfl, by first | decide | omega | (dsimp only; omega), J_dn j7 (by decide), fun e => absurd e (by first | decide | omega | (dsimp only; omega))⟩) (fun _ => ?_)
      refine gT_v1 (A := fun v u => (v = -1 ∨ (0 ≤ v ∧ v ≤ 50)) ∧ True ∧ J (0, q) u) (d_13 hp j7 t0) (fun v11 s10 h10 => ?_)
      obtain ⟨e10, -, j10⟩ := h10
      extract_lets s12
      have j12 : J (-1, q) s12 := J_w9 (J_dn j10 (by decide)) t1 (by rw [if_pos e1]; omega)
      have e12 : gI s12 a1 9 = v11 := rd_same (show s12 = gw s10 a1 9 v11 from rfl)
      refine gT_ite (fun _ => gT_ret ⟨rfl, by first | decide | omega | (dsimp only; omega), j12, fun e => absurd e (by first | decide | omega | (dsimp only; omega))⟩) (fun hn => gT_ret ⟨rfl, by first | decide | omega | (dsimp only; omega), j12, fun _ => J_p j12 ?_⟩)
      rw [e1] at e12 hn
      show 0 ≤ gI s12 36 9
      omega
    · refine gT_v1 (A := fun v u => (v = -1 ∨ (0 ≤ v ∧ v ≤ 100)) ∧ True ∧ J (0, q) u) (d_13 hp j4 t0) (fun v14 s13 h13 => ?_)
      obtain ⟨-, -, j13⟩ := h13
      extract_lets s15
      have j15 : J (0, q) s15 := J_wf j13 t1 rfl (by decide) (by decide) (fun q9 hq => by cases hq)
      exact gT_ite (fun _ => gT_ret ⟨rfl, by first | decide | omega | (dsimp only; omega), J_dn j15 (by decide), fun _ => j15⟩) (fun hn => gT_ret ⟨rfl, by first | decide | omega | (dsimp only; omega), J_dn j15 (by decide), fun _ => j15⟩)
  · refine gT_v1 (A := fun v u => (v = -1 ∨ (0 ≤ v ∧ v ≤ 99)) ∧ True ∧ J (0, q) u) (d_13 hp j1 t0) (fun v17 s16 h16 => ?_)
    obtain ⟨-, -, j16⟩ := h16
    extract_lets s18
    have j18 : J (0, q) s18 := J_wf j16 t1 rfl (by decide) (by decide) (fun q9 hq => by cases hq)
    exact gT_ite (fun _ => gT_ret ⟨rfl, by first | decide | omega | (dsimp only; omega), J_dn j18 (by decide), fun _ => j18⟩) (fun hn => gT_ret ⟨rfl, by first | decide | omega | (dsimp only; omega), J_dn j18 (by decide), fun _ => j18⟩)
/-- the end of a line that wrote no rule -/
theorem d12_e {z : Option gO} {E : gS → Option gO} (hz : gT z (fun r => r.1 = 1 ∧ (0 ≤ r.2.1 ∧ r.2.1 ≤ 1) ∧ J (0, q) r.2.2.2)) (hE : ∀ u, E u = some (1, 0, 0, u)) : gT (z.bind (gv1 (fun v u => if v = 0 then E u else some (1, 1, 0, u)))) (fun r => r.1 = 1 ∧ (0 ≤ r.2.1 ∧ r.2.1 ≤ 1) ∧ J (-1, q) r.2.2.2 ∧ (r.2.1 = 1 → J (0, q) r.2.2.2)) := by
  refine gT_v1 (A := fun v u => (0 ≤ v ∧ v ≤ 1) ∧ J (0, q) u) hz (fun v u hv => ?_)
  refine gT_ite (fun _ => ?_) (fun _ => gT_ret ⟨rfl, by first | decide | omega | (dsimp only; omega), J_dn hv.2 (by decide), fun _ => hv.2⟩)
  rw [hE]
  exact gT_ret ⟨rfl, by first | decide | omega | (dsimp only; omega), J_dn hv.2 (by decide), fun _ => hv.2⟩
theorem d12_z (h : J (0, q) s) : gT (some (1, 0, 0, s)) (fun r : gO => r.1 = 1 ∧ (0 ≤ r.2.1 ∧ r.2.1 ≤ 1) ∧ J (-1, q) r.2.2.2 ∧ (r.2.1 = 1 → J (0, q) r.2.2.2)) := gT_ret ⟨rfl, by first | decide | omega | (dsimp only; omega), J_dn h (by decide), fun _ => h⟩
theorem d_12 (h : J (0, q) s) (t0 : T 1 a0) (t1 : T 0 a1) (t2 : T 2 a2) (e1 : a1 = 36) : gT (f_12 a0 a1 a2 s) (fun r => r.1 = 1 ∧ (0 ≤ r.2.1 ∧ r.2.1 ≤ 1) ∧ J (-1, q) r.2.2.2 ∧ (r.2.1 = 1 → J (0, q) r.2.2.2)) := by
  have hp : (-1 : Int) ≤ 0 ∧ (0 : Int) ≤ 0 := by decide
  unfold f_12
  refine gT_v1 (A := fun v u => (0 ≤ v ∧ v ≤ 1) ∧ J (0, q) u) (d_80 hp h (T_f (i := 0) h t0 (by decide) rfl rfl)) (fun v2 s1 h1 => ?_)
  obtain ⟨-, j1⟩ := h1
  refine gT_ite (fun _ => ?_) (fun _ => ?_)
  rotate_left
  · exact gT_ite (fun _ => d12_e (d_15 hp j1 t0 t1) (fun _ => rfl)) (fun _ => d12_z j1)
  refine gT_v1 (A := fun v u => (0 ≤ v ∧ v ≤ 1) ∧ J (0, q) u) (d_80 hp j1 (T_f (i := 0) j1 t0 (by decide) rfl rfl)) (fun v5 s4 h4 => ?_)
  obtain ⟨-, j4⟩ := h4
  refine gT_ite (fun _ => ?_) (fun _ => ?_)
  rotate_left
  · exact gT_ite (fun _ => d12_e (d_16 hp j4 t0 t2) (fun _ => rfl)) (fun _ => d12_z j4)
  refine gT_v1 (A := fun v u => (0 ≤ v ∧ v ≤ 1) ∧ J (0, q) u) (d_80 hp j4 (T_f (i := 0) j4 t0 (by decide) rfl rfl)) (fun v8 s7 h7 => ?_)
  obtain ⟨-, j7⟩ := h7
  refine gT_ite (fun _ => ?_) (fun _ => ?_)
  rotate_left
  · exact gT_ite (fun _ => d12_e (d_17 hp j7 t0 t1) (fun _ => rfl)) (fun _ => d12_z j7)
  refine gT_v1 (A := fun v u => (0 ≤ v ∧ v ≤ 1) ∧ J (0, q) u) (d_80 hp j7 (T_f (i := 0) j7 t0 (by decide) rfl rfl)) (fun v11 s10 h10 => ?_)
  obtain ⟨-, j10⟩ := h10
  refine gT_ite (fun _ => ?_) (fun _ => ?_)
  rotate_left
  · exact gT_ite (fun _ => d12_e (d_18 hp j10 t0 t2) (fun _ => rfl)) (fun _ => d12_z j10)
  refine gT_v1 (A := fun v u => (0 ≤ v ∧ v ≤ 1) ∧ J (0, q) u) (d_80 hp j10 (T_f (i := 0) j10 t0 (by decide) rfl rfl)) (fun v14 s13 h13 => ?_)
  obtain ⟨-, j13⟩ := h13
  refine gT_ite (fun _ => ?_) (fun _ => ?_)
  · refine gT_v1 (A := fun v u => (0 ≤ v ∧ v ≤ 1) ∧ J (-1, q) u ∧ (v = 1 → J (0, q) u)) (d_20 j13 t0 t1 e1) (fun v17 s16 h16 => ?_)
    exact gT_ret ⟨rfl, h16⟩
  · refine gT_v1 (A := fun v u => (0 ≤ v ∧ v ≤ 1) ∧ J (0, q) u) (d_19 hp j13 t0 t2) (fun v20 s19 h19 => ?_)
    exact gT_ret ⟨rfl, h19.1, J_dn h19.2 (by decide), fun _ => h19.2⟩
theorem d_11 (h : J (0, q) s) (t0 : T 1 a0) (t1 : T 0 a1) (t2 : T 2 a2) (e1 : a1 = 36) : gT (f_11 a0 a1 a2 s) (fun r => r.1 = 1 ∧ (0 ≤ r.2.1 ∧ r.2.1 ≤ 1) ∧ J (-1, q) r.2.2.2 ∧ (r.2.1 = 1 → J (0, q) r.2.2.2)) := by
  have hp : (-1 : Int) ≤ 0 ∧ (0 : Int) ≤ 0 := by decide
  have hq : (-1 : Int) ≤ -1 ∧ (-1 : Int) ≤ 0 := by decide
  unfold f_11
  refine gT_v0 (A := fun u => J (0, q) u) (d_77 hp h (T_f (i := 0) h t0 (by decide) rfl rfl)) (fun s1 j1 => ?_)
  refine gT_v1 (A := fun v u => (0 ≤ v ∧ v ≤ 1) ∧ J (0, q) u) (d_79 hp j1 (T_f (i := 0) j1 t0 (by decide) rfl rfl)) (fun v4 s3 h3 => ?_)
  obtain ⟨-, j3⟩ := h3
  refine gT_ite (fun _ => ?_) (fun _ => gT_ret ⟨rfl, by first | decide | omega | (dsimp only; omega), J_dn j3 (by decide), fun _ => j3⟩)
  refine gT_loop (fun y => T 1 y.1 ∧ T 0 y.2.1 ∧ y.2.1 = 36 ∧ T 2 y.2.2.1 ∧ (0 ≤ y.2.2.2.1 ∧ y.2.2.2.1 ≤ 14) ∧ J (0, q) y.2.2.2.2) (fun y => (14 - y.2.2.2.1).toNat) (fun y hy => ?_) ⟨t0, t1, e1, t2, by first | decide | omega | (dsimp only; omega), j3⟩
  obtain ⟨x0, x1, x2, x3, s⟩ := y
  obtain ⟨t0, t1, e1, t2, r3, h⟩ := hy
  dsimp only at t0 t1 e1 t2 r3 h
  show gT (sb_11_21 x0 x1 x2 x3 s) _
  unfold sb_11_21
  refine gT_ite (fun h3 => ?_) (fun _ => gT_map (d12_z h))
  refine gT_v1 (A := fun v u => (0 ≤ v ∧ v ≤ 1) ∧ J (-1, q) u ∧ (v = 1 → J (0, q) u)) (d_12 h t0 t1 t2 e1) (fun v7 s6 h6 => ?_)
  obtain ⟨r7, j6, g6⟩ := h6
  refine gT_ite (fun _ => gT_map (gT_ret ⟨rfl, by first | decide | omega | (dsimp only; omega), j6, fun e => absurd e (by first | decide | omega | (dsimp only; omega))⟩)) (fun hn => ?_)
  have k6 := g6 (by omega)
  refine gT_v1 (A := fun v u => (0 ≤ v ∧ v ≤ 1) ∧ J (0, q) u) (d_79 hp k6 (T_f (i := 0) k6 t0 (by decide) rfl rfl)) (fun v10 s9 h9 => ?_)
  obtain ⟨-, j9⟩ := h9
  refine gT_ite (fun _ => ?_) (fun _ => gT_map (gT_ret ⟨rfl, by first | decide | omega | (dsimp only; omega), J_dn j9 (by decide), fun _ => j9⟩))
  refine gT_v1 (A := fun v u => (0 ≤ v ∧ v ≤ 1) ∧ J (0, q) u) (d_83 hp j9 (T_f (i := 0) j9 t0 (by decide) rfl rfl)) (fun v13 s12 h12 => ?_)
  obtain ⟨-, j12⟩ := h12
  have e3 := g32_eq (v := x3 + 1) (by omega) (by omega)
  refine gT_ite (fun _ => gT_map (d12_z j12)) (fun _ => gT_ret ⟨⟨t0, t1, e1, t2, by dsimp only; omega, j12⟩, by dsimp only; omega⟩)
theorem d_89 (h : J (-1, q) s) (t0 : T 11 a0) : gT (f_89 a0 s) (fun r => (r.1 = 1 ∧ True ∧ J (-1, 0, q.2) r.2.2.2) ∨ (2 ≤ r.1 ∧ r.1 ≤ 6 ∧ (r.1 = 2 ∨ r.1 = 3) ∧ J (-1, 0, q.2) r.2.2.2)) := by
  have hp : (-1 : Int) ≤ 0 ∧ (0 : Int) ≤ 0 := by decide
  have hq : (-1 : Int) ≤ -1 ∧ (-1 : Int) ≤ 0 := by decide
  have e0 := T_11 t0
  subst e0
  have r8 : ∀ {p : gP} {u : gS}, J p u → gR u 0 8 = 36 := fun hu => J_r hu rfl (by decide +kernel) (by decide +kernel)
  have r4 : ∀ {p : gP} {u : gS}, J p u → gR u 0 4 = 9 := fun hu => J_r hu rfl (by decide +kernel) (by decide +kernel)
  unfold f_89
  have t8 := T_f (i := 8) h t0 (by decide) rfl rfl
  have t4 := T_f (i := 4) h t0 (by decide) rfl rfl
  have b9 := J_9i h t4
  rw [r4 h, if_neg (by decide)] at b9
  refine gT_v0 (A := fun u => J (-1, q) u ∧ 0 ≤ gI u 36 9) (gT_mono (c_1 h t8 t4 (by rw [r8 h, if_pos rfl, r4 h]; omega)) (fun r hr => ⟨hr.1, hr.2.1, by have := hr.2.2; rw [r8 h, r4 h] at this; omega⟩)) (fun s1 h1 => ?_)
  have j1 : J (0, q) s1 := J_p h1.1 h1.2
  refine gT_v0 (A := fun u => J (0, q) u) (d_23 hp j1 (T_f (i := 9) j1 t0 (by decide) rfl rfl) (T_f (i := 5) j1 t0 (by decide) rfl rfl)) (fun s3 j3 => ?_)
  refine gT_v1 (A := fun v u => (0 ≤ v ∧ v ≤ 1) ∧ J (-1, q) u ∧ (v = 1 → J (0, q) u)) (d_11 j3 (T_f (i := 2) j3 t0 (by decide) rfl rfl) (T_f (i := 8) j3 t0 (by decide) rfl rfl) (T_f (i := 9) j3 t0 (by decide) rfl rfl) (r8 j3)) (fun v6 s5 h5 => ?_)
  obtain ⟨r6, j5, g5⟩ := h5
  have hend : ∀ w : Int, gT (fb_89_54 0 v6 w 0 s5) (fun r => (r.1 = 1 ∧ True ∧ J (-1, 0, q.2) r.2.2.2) ∨ (2 ≤ r.1 ∧ r.1 ≤ 6 ∧ (r.1 = 2 ∨ r.1 = 3) ∧ J (-1, 0, q.2) r.2.2.2)) := by
    intro w
    unfold fb_89_54
    extract_lets s8 s9
    have j8 : J (-1, q) s8 := J_wf j5 t0 rfl (by decide) (by decide) (fun q9 hq => by cases hq)
    have j9 : J (-1, 0, q.2) s9 := J_l j8 (T_f (i := 0) j8 t0 (by decide) rfl rfl) (by decide)
    refine gT_ite (fun _ => gT_ret (Or.inr ⟨by first | decide | omega | (dsimp only; omega), by first | decide | omega | (dsimp only; omega), Or.inl rfl, J_nw j9⟩)) (fun hn => ?_)
    have k5 := g5 (by omega)
    have k8 : J (0, q) s8 := J_wf k5 t0 rfl (by decide) (by decide) (fun q9 hq => by cases hq)
    have k9 : J (0, 0, q.2) s9 := J_l k8 (T_f (i := 0) k8 t0 (by decide) rfl rfl) (by decide)
    refine gT_ite (fun _ => ?_) (fun _ => gT_ret (Or.inr ⟨by first | decide | omega | (dsimp only; omega), by first | decide | omega | (dsimp only; omega), Or.inr rfl, J_nw j9⟩))
    have u4 := T_f (i := 4) k9 t0 (by decide) rfl rfl
    have u8 := T_f (i := 8) k9 t0 (by decide) rfl rfl
    have c9 := J_9i k9 u8
    rw [r8 k9, if_pos rfl] at c9
    refine gT_v0 (A := fun u => J (0, 0, q.2) u) (gT_mono (c_1 k9 u4 u8 (by rw [r4 k9, if_neg (by decide), r8 k9]; omega)) (fun r hr => ⟨hr.1, hr.2.1⟩)) (fun s10 j10 => ?_)
    extract_lets s12
    have j12 : J (0, 0, q.2) s12 := J_wf j10 (T_f (i := 4) j10 t0 (by decide) rfl rfl) rfl (by decide) (by decide) (fun q9 hq => by cases hq)
    refine gT_v0 (A := fun u => J (0, 0, q.2) u) (d_23 hp j12 (T_f (i := 5) j12 t0 (by decide) rfl rfl) (T_f (i := 9) j12 t0 (by decide) rfl rfl)) (fun s13 j13 => ?_)
    extract_lets s15
    have j15 : J (0, 0, q.2) s15 := J_wf j13 t0 rfl (by decide) (by decide) (fun q9 hq => by cases hq)
    exact gT_ret (Or.inl ⟨rfl, trivial, J_dn j15 (by decide)⟩)
  exact gT_ite (fun _ => hend _) (fun _ => hend _)
theorem d_131 (hp : -1 ≤ p.1 ∧ p.1 ≤ 0) (h : J p s) (t0 : T 11 a0) : gT (f_131 a0 s) (fun r => r.1 = 0 ∧ J (p.1, p.2.1, p.2.2.1, 1, p.2.2.2.2) r.2.2.2) := by
  have e0 := T_11 t0
  subst e0
  have r10 : gR s 0 10 = 54 := J_r h rfl (by decide +kernel) (by decide +kernel)
  have r4 : gR s 0 4 = 9 := J_r h rfl (by decide +kernel) (by decide +kernel)
  have t4 := T_f (i := 4) h t0 (by decide) rfl rfl
  have b9 := J_9i h t4
  rw [r4, if_neg (by decide)] at b9
  unfold f_131
  refine gT_v0 (A := fun u => J p u) (gT_mono (c_1 h (T_f (i := 10) h t0 (by decide) rfl rfl) t4 (by rw [r10, if_neg (by decide), r4]; omega)) (fun r hr => ⟨hr.1, hr.2.1⟩)) (fun s1 j1 => ?_)
  refine gT_v0 (A := fun u => J p u) (d_22 hp j1 (T_f (i := 11) j1 t0 (by decide) rfl rfl) (T_f (i := 5) j1 t0 (by decide) rfl rfl)) (fun s3 j3 => ?_)
  refine gT_bool (by decide) ?_
  extract_lets s5
  exact gT_ret ⟨rfl, J_i j3 t0⟩
theorem d_132 (hp : -1 ≤ p.1 ∧ p.1 ≤ 0) (h : J p s) (t0 : T 11 a0) : gT (f_132 a0 s) (fun r => r.1 = 1 ∧ (0 ≤ r.2.1 ∧ r.2.1 ≤ 1) ∧ J p r.2.2.2) := by
  have e0 := T_11 t0
  subst e0
  have r10 : gR s 0 10 = 54 := J_r h rfl (by decide +kernel) (by decide +kernel)
  have r4 : gR s 0 4 = 9 := J_r h rfl (by decide +kernel) (by decide +kernel)
  have t10 := T_f (i := 10) h t0 (by decide) rfl rfl
  have b9 := J_9i h t10
  rw [r10, if_neg (by decide)] at b9
  unfold f_132
  refine gT_ite (fun _ => gT_ret ⟨rfl, by first | decide | omega | (dsimp only; omega), h⟩) (fun _ => ?_)
  refine gT_v0 (A := fun u => J p u) (gT_mono (c_1 h (T_f (i := 4) h t0 (by decide) rfl rfl) t10 (by rw [r4, if_neg (by decide), r10]; omega)) (fun r hr => ⟨hr.1, hr.2.1⟩)) (fun s1 j1 => ?_)
  refine gT_v0 (A := fun u => J p u) (d_22 hp j1 (T_f (i := 5) j1 t0 (by decide) rfl rfl) (T_f (i := 11) j1 t0 (by decide) rfl rfl)) (fun s3 j3 => ?_)
  extract_lets s5
  exact gT_ret ⟨rfl, by first | decide | omega | (dsimp only; omega), J_wf j3 t0 rfl (by decide) (by decide) (fun q9 hq => by cases hq)⟩
end Bk

end
section
/-- what holds behind each end -/
noncomputable def gQ {Q : Type} (x : Option Q) (P : Q → Prop) : Prop := ∀ r, x = some r → P r
section GQ
variable {Q : Type} {x y : Option Q} {P : Q → Prop}
theorem gQ_ret {r : Q} (h : P r) : gQ (some r) P := fun q e => by cases e; exact h
theorem gQ_none : gQ (none : Option Q) P := fun q e => by cases e
theorem gQ_ite {c : Prop} [Decidable c] (h1 : gQ x P) (h2 : gQ y P) : gQ (if c then x else y) P := by
  by_cases h : c
  · rw [if_pos h]; exact h1
  · rw [if_neg h]; exact h2
theorem gQ_chk {j n : Int} (k : gQ x P) : gQ (gchk j n x) P := by
  unfold gchk
  exact gQ_ite k gQ_none
theorem gQ_bool {v : Int} (k : gQ x P) : gQ (gbool v x) P := by
  unfold gbool
  exact gQ_ite k gQ_none
theorem gQ_v0 {z : Option gO} {A : gS → Prop} {E : gS → Option Q} (h : gQ z (fun r => A r.2.2.2)) (k : ∀ s, A s → gQ (E s) P) : gQ (z.bind (gv0 E)) P := by
  cases z with
  | none => exact gQ_none
  | some r => 
    show gQ (gv0 E r) P
    unfold gv0
    exact gQ_ite (k _ (h r rfl)) gQ_none
theorem gQ_v1 {z : Option gO} {A : gS → Prop} {E : Int → gS → Option Q} (h : gQ z (fun r => A r.2.2.2)) (k : ∀ v s, A s → gQ (E v s) P) : gQ (z.bind (gv1 E)) P := by
  cases z with
  | none => exact gQ_none
  | some r => 
    show gQ (gv1 E r) P
    unfold gv1
    exact gQ_ite (k _ _ (h r rfl)) gQ_none
theorem gQ_map {R : Type} {f : Q → R} {P : R → Prop} (h : gQ x (fun r => P (f r))) : gQ (x.map f) P := by
  cases x with
  | none => exact gQ_none
  | some r => exact gQ_ret (h r rfl)
theorem gT_and {A : Q → Prop} (h : gT x P) (k : gQ x A) : gT x (fun r => P r ∧ A r) := by
  obtain ⟨r, h1, h2⟩ := h
  exact ⟨r, h1, h2, k r h1⟩
end GQ
/-- only numbers changed -/
noncomputable def Sm (s s' : gS) : Prop := s'.1 = s.1 ∧ s'.2.1 = s.2.1 ∧ s'.2.2.2 = s.2.2.2
section Tn
variable {p : gP} {s s' s0 : gS} {a0 a1 x : Nat} {v : Int}
theorem Sm_r : Sm s s := ⟨rfl, rfl, rfl⟩
theorem Sm_t {s2 : gS} (h : Sm s s') (h2 : Sm s' s2) : Sm s s2 := ⟨h2.1.trans h.1, h2.2.1.trans h.2.1, h2.2.2.trans h.2.2⟩
theorem Jl_sm (h : Sm s s') (k : Jl s x) : Jl s' x ∧ glen s' (gR s' x 1) = glen s (gR s x 1) := by
  obtain ⟨n, kk, i, r⟩ := s
  obtain ⟨n', k', i', r'⟩ := s'
  obtain ⟨h1, h2, h3⟩ := h
  dsimp only at h1 h2 h3
  subst h1 h2 h3
  exact ⟨k, rfl⟩
theorem q_40 (h : Sm s0 s) : gQ (f_40 a0 v s) (fun r => Sm s0 r.2.2.2) := by
  unfold f_40
  exact gQ_ite (gQ_chk (gQ_ret h)) (gQ_ret h)
theorem q_41 (h : Sm s0 s) : gQ (f_41 a0 s) (fun r => Sm s0 r.2.2.2) := by
  unfold f_41
  exact gQ_ite (gQ_ret h) (gQ_chk (gQ_ret h))
theorem q_39 (h : Sm s0 s) : gQ (f_39 a0 v s) (fun r => Sm s0 r.2.2.2) := by
  unfold f_39
  exact gQ_ite (gQ_ret h) (gQ_ite (gQ_chk (gQ_ret h)) (gQ_ret h))
theorem q_40e (h : Sm s0 s) : gQ ((f_40 a0 v s).bind (gv0 (fun s3 => some (0, 0, 0, s3)))) (fun r : gO => Sm s0 r.2.2.2) :=
  gQ_v0 (A := Sm s0) (q_40 h) (fun _ h => gQ_ret h)
theorem q_38 (h : Sm s0 s) : gQ (f_38 a0 v s) (fun r => Sm s0 r.2.2.2) := by
  unfold f_38
  refine gQ_v1 (A := Sm s0) (q_41 h) (fun v2 s1 h1 => ?_)
  refine gQ_ite (q_40e h1) ?_
  refine gQ_v1 (A := Sm s0) (q_41 h1) (fun v6 s5 h5 => ?_)
  refine gQ_ite (q_40e h5) (gQ_ite (q_40e h5) (gQ_ite (gQ_ite (q_40e h5) (q_40e h5)) (gQ_ite (gQ_ite (q_40e h5) (q_40e h5)) (gQ_ite (q_40e h5) (gQ_ite (q_40e h5) (q_40e h5))))))
theorem d37_s {x0 x1 : Nat} {x2 x3 N : Int} (hp : -1 ≤ p.1 ∧ p.1 ≤ 0) (t0 : T 3 x0) (l : Jl s x1) (hN : 0 ≤ N ∧ N ≤ 400) (hg : glen s (gR s x1 1) = N) (r3 : 0 ≤ x3 ∧ x3 ≤ N) (h : J p s) : gT (sb_37_15 x0 x1 x2 x3 s) (Sum.elim (fun z => (z.1 = x0 ∧ z.2.1 = x1 ∧ z.2.2.2.1 = x3 + 1 ∧ x3 < N ∧ J p z.2.2.2.2 ∧ Sm s z.2.2.2.2)) (fun r => r.1 = 1 ∧ True ∧ J p r.2.2.2)) := by
  have n1 : ¬ x1 = 0 := by have := l.1; omega
  have n2 : ¬ gR s x1 1 = 0 := by have := l.2.1; omega
  have e3 := g32_eq (v := x3 + 1) (by omega) (by omega)
  unfold sb_37_15
  refine gT_ite (fun e => absurd e n1) (fun _ => ?_)
  refine gT_ite (fun e => absurd e n2) (fun _ => ?_)
  refine gT_ite (fun hx => ?_) (fun _ => gT_map (gT_ret ⟨rfl, trivial, h⟩))
  refine gT_ite (fun e => absurd e n1) (fun _ => ?_)
  refine gT_ite (fun e => absurd e n2) (fun _ => ?_)
  refine gT_chk r3.1 hx ?_
  rw [hg] at hx
  extract_lets v2
  clear_value v2
  refine gT_ite (fun _ => ?_) (fun _ => ?_)
  · refine gT_ite (fun _ => ?_) (fun _ => ?_)
    · refine gT_ite (fun _ => ?_) (fun _ => ?_)
      · refine gT_ite (fun _ => ?_) (fun _ => ?_)
        · exact gT_v0 (A := fun u => J p u ∧ Sm s u) (gT_mono (gT_and (d_40 hp h t0) (q_40 Sm_r)) (fun r hr => ⟨hr.1.1, hr.1.2, hr.2⟩)) (fun s3 h3 => gT_ret ⟨rfl, rfl, e3, hx, h3⟩)
        · refine gT_v1 (A := fun _ u => J p u ∧ Sm s u) (gT_mono (gT_and (d_39 hp h t0) (q_39 Sm_r)) (fun r hr => ⟨hr.1.1, hr.1.2.2, hr.2⟩)) (fun v6 s5 h5 => ?_)
          exact gT_v0 (A := fun u => J p u ∧ Sm s u) (gT_mono (gT_and (d_40 hp h5.1 t0) (q_40 h5.2)) (fun r hr => ⟨hr.1.1, hr.1.2, hr.2⟩)) (fun s3 h3 => gT_ret ⟨rfl, rfl, e3, hx, h3⟩)
      · exact gT_v0 (A := fun u => J p u ∧ Sm s u) (gT_mono (gT_and (d_38 hp h t0) (q_38 Sm_r)) (fun r hr => ⟨hr.1.1, hr.1.2, hr.2⟩)) (fun s3 h3 => gT_ret ⟨rfl, rfl, e3, hx, h3⟩)
    · exact gT_v1 (A := fun _ u => J p u ∧ Sm s u) (gT_mono (gT_and (d_41 hp h t0) (q_41 Sm_r)) (fun r hr => ⟨hr.1.1, hr.1.2.2, hr.2⟩)) (fun v6 s5 h5 => gT_ret ⟨rfl, rfl, e3, hx, h5⟩)
  · exact gT_v1 (A := fun _ u => J p u ∧ Sm s u) (gT_mono (gT_and (d_41 hp h t0) (q_41 Sm_r)) (fun r hr => ⟨hr.1.1, hr.1.2.2, hr.2⟩)) (fun v6 s5 h5 => gT_ret ⟨rfl, rfl, e3, hx, h5⟩)
theorem d37_l (hp : -1 ≤ p.1 ∧ p.1 ≤ 0) (j1 : J p s) (t0 : T 3 a0) (l1 : Jl s a1) : gT (gloop st_37_15 (a0, a1, 0, 0, s)) (fun r => r.1 = 1 ∧ True ∧ J p r.2.2.2) := by
  obtain ⟨N, hg⟩ : ∃ N, glen s (gR s a1 1) = N := ⟨_, rfl⟩
  have hN : 0 ≤ N ∧ N ≤ 400 := by
    rw [← hg]
    refine ⟨?_, l1.2.2⟩
    unfold glen
    omega
  refine gT_loop (fun y => y.1 = a0 ∧ y.2.1 = a1 ∧ (0 ≤ y.2.2.2.1 ∧ y.2.2.2.1 ≤ N) ∧ J p y.2.2.2.2 ∧ Sm s y.2.2.2.2) (fun y => (N - y.2.2.2.1).toNat) (fun y hy => ?_) ⟨rfl, rfl, by dsimp only; omega, j1, Sm_r⟩
  obtain ⟨x0, x1, x2, x3, u⟩ := y
  obtain ⟨q0, q1, r3, h, sm⟩ := hy
  dsimp only at q0 q1 r3 h sm
  subst q0 q1
  have k := Jl_sm sm l1
  show gT (sb_37_15 x0 x1 x2 x3 u) _
  refine gT_mono (d37_s hp t0 k.1 hN (k.2.trans hg) r3 h) (fun r hr => ?_)
  cases r with
  | inr q => exact hr
  | inl z =>
    obtain ⟨z0, z1, z2, z3, zs⟩ := z
    obtain ⟨e0, e1, e3, hx, jz, sz⟩ := hr
    dsimp only at e0 e1 e3 jz sz
    exact ⟨⟨e0, e1, by dsimp only; omega, jz, Sm_t sm sz⟩, by dsimp only; omega⟩
theorem d_37 (hp : -1 ≤ p.1 ∧ p.1 ≤ 0) (h : J p s) (t0 : T 3 a0) (hl : a1 = 0 ∨ Jl s a1) : gT (f_37 a0 a1 s) (fun r => r.1 = 1 ∧ True ∧ J p r.2.2.2) := by
  unfold f_37
  refine gT_ite (fun _ => gT_ret ⟨rfl, trivial, h⟩) (fun hn => ?_)
  have hl : Jl s a1 := hl.resolve_left hn
  extract_lets s1
  have j1 : J p s1 := J_wf h t0 rfl (by decide) (by decide) (fun q hq => by cases hq; decide)
  have l1 : Jl s1 a1 := Jl_w hl
  clear_value s1
  exact d37_l hp j1 t0 l1
end Tn

end
section
noncomputable def LJ (p : gP) (c : Int) (s : gS) : Prop := J p s ∧ Wt s ∧ gI s 7 2 + c ≤ gI s 1 3
theorem k0_7 : ∀ a, a < 232 → (k0 a = 5 → a = 7) := by decide +kernel
theorem T_5 {a : Nat} (t : T 5 a) : a = 7 := k0_7 a t.1 t.2
theorem t5_7 : T 5 7 := ⟨by first | decide | omega | (dsimp only; omega), by decide +kernel⟩
theorem t10_1 : T 10 1 := ⟨by first | decide | omega | (dsimp only; omega), by decide +kernel⟩
theorem k0_8 : k0 8 = 3300 := by decide +kernel
section Lr
variable {p : gP} {c c' : Int} {s s' : gS} {a k : Nat} {v : Int}
theorem r_70 (h : J p s) : gR s 7 0 = 1 := J_r h rfl (by decide +kernel) (by decide +kernel)
theorem r_71 (h : J p s) : gR s 7 1 = 8 := J_r h rfl (by decide +kernel) (by decide +kernel)
theorem LJ_dn (h : LJ p c s) (hc : c' ≤ c) : LJ p c' s := ⟨h.1, h.2.1, by have := h.2.2; omega⟩
theorem J_w8 (h : J p s) : J p (gw s 8 k v) := J_wb h (by rw [k0_8]; decide) (fun q hq => by cases hq)
theorem l_78n (n : Int) (h : LJ p c s) (hn : gI s 1 3 + n ≤ gI s 1 4) : gT (f_78 1 s) (fun r => r.1 = 0 ∧ LJ p (c + n) r.2.2.2) := by
  refine gT_mono (c_78 h.1 t10_1) (fun r hr => ⟨hr.1, hr.2.1, hr.2.2.2.1, ?_⟩)
  have e := hr.2.2.1.2 7 2 (by decide)
  have f := hr.2.2.2.2
  have g := h.2.2
  rw [e]
  omega
theorem l_78 (h : LJ p c s) (hk : gI s 1 2 ≠ 0) : gT (f_78 1 s) (fun r => r.1 = 0 ∧ LJ p (c + 1) r.2.2.2) :=
  l_78n 1 h (h.2.1.resolve_left hk)
theorem l_82 {w : Nat} (h : LJ p c s) : gT (f_82 (gR s 7 0) w s) (fun r => r.1 = 1 ∧ (0 ≤ r.2.1 ∧ r.2.1 ≤ 1) ∧ LJ p c r.2.2.2 ∧ (r.2.1 ≠ 0 → LJ p (c + 1) r.2.2.2)) := by
  rw [r_70 h.1]
  unfold f_82
  refine gT_v1 (A := fun v u => (0 ≤ v ∧ v ≤ 1 ∧ (v = 1 → gI s 1 2 = 1 ∧ gI s 1 4 = gI s 1 3 + gsl w)) ∧ u = s) (c_80 h.1 t10_1) (fun v2 s1 h1 => ?_)
  obtain ⟨r2, e⟩ := h1
  subst e
  refine gT_ite (fun h0 => gT_ret ⟨rfl, by dsimp only; omega, h, fun e => absurd h0 e⟩) (fun h0 => ?_)
  refine gT_v0 (A := fun u => LJ p (c + 1) u) (l_78 h (by have := r2.2.2 (by omega); omega)) (fun s4 h4 => ?_)
  exact gT_ret ⟨rfl, by dsimp only; omega, LJ_dn h4 (by omega), fun _ => h4⟩
theorem l_83 {w : Int} (h : LJ p c s) : gT (f_83 (gR s 7 0) w s) (fun r => r.1 = 1 ∧ (0 ≤ r.2.1 ∧ r.2.1 ≤ 1) ∧ LJ p c r.2.2.2 ∧ (r.2.1 ≠ 0 → LJ p (c + 1) r.2.2.2)) := by
  rw [r_70 h.1]
  unfold f_83
  refine gT_v1 (A := fun v u => (0 ≤ v ∧ v ≤ 1 ∧ (v = 1 → gI s 1 2 = 3)) ∧ u = s) (c_81 h.1 t10_1) (fun v2 s1 h1 => ?_)
  obtain ⟨r2, e⟩ := h1
  subst e
  refine gT_ite (fun h0 => gT_ret ⟨rfl, by dsimp only; omega, h, fun e => absurd h0 e⟩) (fun h0 => ?_)
  refine gT_v0 (A := fun u => LJ p (c + 1) u) (l_78 h (by have := r2.2.2 (by omega); omega)) (fun s4 h4 => ?_)
  exact gT_ret ⟨rfl, by dsimp only; omega, LJ_dn h4 (by omega), fun _ => h4⟩
theorem l_84 {lo hi : Int} (h : LJ p c s) : gT (f_84 (gR s 7 0) lo hi s) (fun r => r.1 = 1 ∧ LJ p c r.2.2.2 ∧ (r.2.1 ≠ -1 → LJ p (c + 1) r.2.2.2)) := by
  have r3 := J_f (i := 3) h.1 t10_1 rfl (by decide) rfl
  have r4 := J_f (i := 4) h.1 t10_1 rfl (by decide) rfl
  rw [r_70 h.1]
  unfold f_84
  refine gT_ite (fun hk => ?_) (fun _ => gT_ret ⟨rfl, h, fun e => absurd rfl e⟩)
  refine gT_ite (fun _ => gT_ret ⟨rfl, h, fun e => absurd rfl e⟩) (fun _ => ?_)
  refine gT_loop (fun y => y.1 = 1 ∧ (0 ≤ y.2.2.2.2.1 ∧ y.2.2.2.2.1 ≤ 400) ∧ y.2.2.2.2.2 = s) (fun y => (400 - y.2.2.2.2.1).toNat) (fun y hy => ?_) ⟨rfl, r3, rfl⟩
  obtain ⟨x0, x1, x2, x3, x4, u⟩ := y
  obtain ⟨e0, r4', eu⟩ := hy
  dsimp only at e0 r4' eu
  subst e0 eu
  show gT (sb_84_31 1 x1 x2 x3 x4 u) _
  unfold sb_84_31
  have e5 := g32_eq (v := x4 + 1) (by omega) (by omega)
  refine gT_ite (fun h5 => ?_) (fun _ => gT_map ?_)
  · refine gT_chk (by omega) (by omega) ?_
    extract_lets v1
    exact gT_ret ⟨⟨rfl, by dsimp only; omega, rfl⟩, by dsimp only; omega⟩
  · refine gT_ite (fun _ => gT_ret ⟨rfl, h, fun e => absurd rfl e⟩) (fun _ => ?_)
    refine gT_ite (fun _ => gT_ret ⟨rfl, h, fun e => absurd rfl e⟩) (fun _ => ?_)
    refine gT_v0 (A := fun u => LJ p (c + 1) u) (l_78 h (by omega)) (fun s4 h4 => ?_)
    exact gT_ret ⟨rfl, LJ_dn h4 (by omega), fun _ => h4⟩
theorem LJ_w {a k : Nat} (hJ : J p (gw s a k v)) (h : LJ p c s) (ha : a = 8 ∨ (a = 7 ∧ k ≠ 2)) : LJ p c (gw s a k v) := by
  have g : ∀ b j, (b = 1 ∨ (b = 7 ∧ j = 2)) → gI (gw s a k v) b j = gI s b j := fun b j hb => by
    show (if b = a ∧ j = k then v else gI s b j) = _
    rw [if_neg (fun e => by omega)]
  refine ⟨hJ, ?_, ?_⟩
  · unfold Wt
    rw [g 1 2 (Or.inl rfl), g 1 3 (Or.inl rfl), g 1 4 (Or.inl rfl)]
    exact h.2.1
  · rw [g 7 2 (Or.inr ⟨rfl, rfl⟩), g 1 3 (Or.inl rfl)]
    exact h.2.2
theorem l_45 {x : Int} (h : LJ p c s) : gT (f_45 7 x s) (fun r => r.1 = 1 ∧ (0 ≤ r.2.1 ∧ r.2.1 ≤ 1) ∧ LJ p (c - 1) r.2.2.2) := by
  have r2 := J_f (i := 2) h.1 t5_7 rfl (by decide) rfl
  unfold f_45
  refine gT_ite (fun h5 => ?_) (fun _ => gT_ret ⟨rfl, by first | decide | omega | (dsimp only; omega), LJ_dn h (by omega)⟩)
  refine gT_chk (by omega) h5 ?_
  rw [r_71 h.1]
  extract_lets s1 s2
  have j1 : J p s1 := J_w8 h.1
  have l1 : LJ p c s1 := LJ_w j1 h (Or.inl rfl)
  have e1 : gI s1 7 2 = gI s 7 2 := rd_a (show s1 = gw s 8 (gI s 7 2).toNat x from rfl) (by decide)
  have e2 := g32_eq (v := gI s1 7 2 + 1) (by omega) (by omega)
  have j2 : J p s2 := J_wf j1 t5_7 rfl (by decide) (by decide) (fun q hq => by cases hq; dsimp only; omega)
  have e3 : gI s2 7 2 = g32 (gI s1 7 2 + 1) := rd_same (show s2 = gw s1 7 2 (g32 (gI s1 7 2 + 1)) from rfl)
  have g : ∀ j, gI s2 1 j = gI s1 1 j := fun j => rd_a (show s2 = gw s1 7 2 (g32 (gI s1 7 2 + 1)) from rfl) (by decide)
  refine gT_ret ⟨rfl, by first | decide | omega | (dsimp only; omega), j2, ?_, ?_⟩
  · show Wt s2
    unfold Wt
    rw [g, g, g]
    exact l1.2.1
  · show gI s2 7 2 + (c - 1) ≤ gI s2 1 3
    have := l1.2.2
    rw [g]
    omega
theorem l_52 (h : J p s) : gT (f_52 7 s) (fun r => r.1 = 1 ∧ (r.2.1 ≠ -1 → gI s 1 2 = 1) ∧ r.2.2.2 = s) := by
  have e := r_70 h
  unfold f_52
  rw [e]
  refine gT_v1 (A := fun v u => (0 ≤ v ∧ v ≤ 1 ∧ (v = 1 → gI s 1 2 = 1 ∧ gI s 1 4 = gI s 1 3 + gsl 36)) ∧ u = s) (c_80 h t10_1) (fun v u0 h1 => ?_)
  obtain ⟨r2, e1⟩ := h1
  subst e1
  refine gT_ite (fun _ => ?_) (fun h0 => gT_ret ⟨rfl, fun _ => (r2.2.2 (by omega)).1, rfl⟩)
  rw [e]
  refine gT_v1 (A := fun v u => (0 ≤ v ∧ v ≤ 1 ∧ (v = 1 → gI u0 1 2 = 1 ∧ gI u0 1 4 = gI u0 1 3 + gsl 37)) ∧ u = u0) (c_80 h t10_1) (fun v u1 h1 => ?_)
  obtain ⟨r2, e1⟩ := h1
  subst e1
  refine gT_ite (fun _ => ?_) (fun h0 => gT_ret ⟨rfl, fun _ => (r2.2.2 (by omega)).1, rfl⟩)
  rw [e]
  refine gT_v1 (A := fun v u => (0 ≤ v ∧ v ≤ 1 ∧ (v = 1 → gI u1 1 2 = 1 ∧ gI u1 1 4 = gI u1 1 3 + gsl 38)) ∧ u = u1) (c_80 h t10_1) (fun v u2 h1 => ?_)
  obtain ⟨r2, e1⟩ := h1
  subst e1
  refine gT_ite (fun _ => ?_) (fun h0 => gT_ret ⟨rfl, fun _ => (r2.2.2 (by omega)).1, rfl⟩)
  rw [e]
  refine gT_v1 (A := fun v u => (0 ≤ v ∧ v ≤ 1 ∧ (v = 1 → gI u2 1 2 = 1 ∧ gI u2 1 4 = gI u2 1 3 + gsl 39)) ∧ u = u2) (c_80 h t10_1) (fun v u3 h1 => ?_)
  obtain ⟨r2, e1⟩ := h1
  subst e1
  refine gT_ite (fun _ => ?_) (fun h0 => gT_ret ⟨rfl, fun _ => (r2.2.2 (by omega)).1, rfl⟩)
  rw [e]
  refine gT_v1 (A := fun v u => (0 ≤ v ∧ v ≤ 1 ∧ (v = 1 → gI u3 1 2 = 1 ∧ gI u3 1 4 = gI u3 1 3 + gsl 40)) ∧ u = u3) (c_80 h t10_1) (fun v u4 h1 => ?_)
  obtain ⟨r2, e1⟩ := h1
  subst e1
  refine gT_ite (fun _ => ?_) (fun h0 => gT_ret ⟨rfl, fun _ => (r2.2.2 (by omega)).1, rfl⟩)
  rw [e]
  refine gT_v1 (A := fun v u => (0 ≤ v ∧ v ≤ 1 ∧ (v = 1 → gI u4 1 2 = 1 ∧ gI u4 1 4 = gI u4 1 3 + gsl 41)) ∧ u = u4) (c_80 h t10_1) (fun v u5 h1 => ?_)
  obtain ⟨r2, e1⟩ := h1
  subst e1
  refine gT_ite (fun _ => ?_) (fun h0 => gT_ret ⟨rfl, fun _ => (r2.2.2 (by omega)).1, rfl⟩)
  rw [e]
  refine gT_v1 (A := fun v u => (0 ≤ v ∧ v ≤ 1 ∧ (v = 1 → gI u5 1 2 = 1 ∧ gI u5 1 4 = gI u5 1 3 + gsl 42)) ∧ u = u5) (c_80 h t10_1) (fun v u6 h1 => ?_)
  obtain ⟨r2, e1⟩ := h1
  subst e1
  exact gT_ite (fun _ => gT_ret ⟨rfl, fun e => absurd rfl e, rfl⟩) (fun h0 => gT_ret ⟨rfl, fun _ => (r2.2.2 (by omega)).1, rfl⟩)
theorem l_51 (h : LJ p c s) : gT (f_51 7 s) (fun r => r.1 = 1 ∧ (0 ≤ r.2.1 ∧ r.2.1 ≤ 1) ∧ LJ p c r.2.2.2) := by
  unfold f_51
  refine gT_v1 (A := fun v u => LJ p c u ∧ (v ≠ -1 → LJ p (c + 1) u)) (l_84 h) (fun v2 s1 h1 => ?_)
  refine gT_ite (fun _ => ?_) (fun hn => ?_)
  · refine gT_v1 (A := fun v u => (v ≠ -1 → gI s1 1 2 = 1) ∧ u = s1) (l_52 h1.1.1) (fun v4 s3 h3 => ?_)
    obtain ⟨e3, e4⟩ := h3
    subst e4
    refine gT_ite (fun _ => gT_ret ⟨rfl, by first | decide | omega | (dsimp only; omega), h1.1⟩) (fun hn => ?_)
    rw [r_70 h1.1.1]
    refine gT_v0 (A := fun u => LJ p (c + 1) u) (l_78 h1.1 (by rw [e3 hn]; decide)) (fun s5 h5 => ?_)
    refine gT_v1 (A := fun v u => (0 ≤ v ∧ v ≤ 1) ∧ LJ p (c + 1 - 1) u) (l_45 h5) (fun v8 s7 h7 => ?_)
    exact gT_ret ⟨rfl, h7.1, LJ_dn h7.2 (by omega)⟩
  · refine gT_v1 (A := fun v u => (0 ≤ v ∧ v ≤ 1) ∧ LJ p (c + 1 - 1) u) (l_45 (h1.2 hn)) (fun v8 s7 h7 => ?_)
    exact gT_ret ⟨rfl, h7.1, LJ_dn h7.2 (by omega)⟩
theorem l_50 (h : LJ p c s) : gT (f_50 7 s) (fun r => r.1 = 1 ∧ (0 ≤ r.2.1 ∧ r.2.1 ≤ 1) ∧ LJ p c r.2.2.2) := by
  unfold f_50
  refine gT_v1 (A := fun v u => (0 ≤ v ∧ v ≤ 1) ∧ LJ p c u) (l_51 h) (fun v2 s1 h1 => ?_)
  refine gT_loop (fun y => y.1 = 7 ∧ (0 ≤ y.2.1 ∧ y.2.1 ≤ 1) ∧ (0 ≤ y.2.2.1 ∧ y.2.2.1 ≤ 400) ∧ LJ p c y.2.2.2) (fun y => (400 - y.2.2.1).toNat) (fun y hy => ?_) ⟨rfl, h1.1, by first | decide | omega | (dsimp only; omega), h1.2⟩
  obtain ⟨x0, x1, x2, s⟩ := y
  obtain ⟨e0, r1, r2, h⟩ := hy
  dsimp only at e0 r1 r2 h
  subst e0
  have e5 := g32_eq (v := x2 + 1) (by omega) (by omega)
  show gT (sb_50_7 7 x1 x2 s) _
  unfold sb_50_7
  refine gT_ite (fun h5 => ?_) (fun _ => gT_map (gT_bool (by omega) (gT_ret ⟨rfl, r1, h⟩)))
  refine gT_ite (fun _ => gT_map (gT_bool (by omega) (gT_ret ⟨rfl, r1, h⟩))) (fun _ => ?_)
  refine gT_v1 (A := fun v u => (0 ≤ v ∧ v ≤ 1) ∧ LJ p c u ∧ (v ≠ 0 → LJ p (c + 1) u)) (l_83 h) (fun v5 s4 h4 => ?_)
  refine gT_ite (fun _ => gT_map (gT_bool (by omega) (gT_ret ⟨rfl, r1, h4.2.1⟩))) (fun hn => ?_)
  refine gT_v1 (A := fun v u => (0 ≤ v ∧ v ≤ 1) ∧ LJ p (c + 1) u) (l_51 (h4.2.2 hn)) (fun v8 s7 h7 => ?_)
  refine gT_ite (fun _ => gT_ret ⟨⟨rfl, by first | decide | omega | (dsimp only; omega), by dsimp only; omega, LJ_dn h7.2 (by omega)⟩, by dsimp only; omega⟩) (fun _ => ?_)
  refine gT_v1 (A := fun v u => (0 ≤ v ∧ v ≤ 1) ∧ LJ p (c + 1 - 1) u) (l_45 h7.2) (fun v11 s10 h10 => ?_)
  exact gT_ite (fun _ => gT_ret ⟨⟨rfl, by first | decide | omega | (dsimp only; omega), by dsimp only; omega, LJ_dn h10.2 (by omega)⟩, by dsimp only; omega⟩) (fun _ => gT_ret ⟨⟨rfl, by first | decide | omega | (dsimp only; omega), by dsimp only; omega, LJ_dn h10.2 (by omega)⟩, by dsimp only; omega⟩)
theorem l_47 {R : Nat → Int → gS → Option gO} {d : Int} (hR : ∀ {c : Int} {s : gS}, LJ p c s → gT (R 7 d s) (fun r => r.1 = 1 ∧ (0 ≤ r.2.1 ∧ r.2.1 ≤ 1) ∧ LJ p c r.2.2.2)) (h : LJ p c s) : gT (fo_47 R 7 d s) (fun r => r.1 = 1 ∧ (0 ≤ r.2.1 ∧ r.2.1 ≤ 1) ∧ LJ p c r.2.2.2) := by
  unfold fo_47
  refine gT_v1 (A := fun v u => (0 ≤ v ∧ v ≤ 1) ∧ LJ p c u) (hR h) (fun v2 s1 h1 => ?_)
  refine gT_loop (fun y => y.1 = 7 ∧ y.2.1 = d ∧ (0 ≤ y.2.2.1 ∧ y.2.2.1 ≤ 1) ∧ (0 ≤ y.2.2.2.1 ∧ y.2.2.2.1 ≤ 400) ∧ LJ p c y.2.2.2.2) (fun y => (400 - y.2.2.2.1).toNat) (fun y hy => ?_) ⟨rfl, rfl, h1.1, by first | decide | omega | (dsimp only; omega), h1.2⟩
  obtain ⟨x0, x1, x2, x3, s⟩ := y
  obtain ⟨e0, e1, r1, r2, h⟩ := hy
  dsimp only at e0 e1 r1 r2 h
  subst e0 e1
  have e5 := g32_eq (v := x3 + 1) (by omega) (by omega)
  show gT (sb_47_8 R 7 x1 x2 x3 s) _
  unfold sb_47_8
  refine gT_ite (fun h5 => ?_) (fun _ => gT_map (gT_bool (by omega) (gT_ret ⟨rfl, r1, h⟩)))
  refine gT_ite (fun _ => gT_map (gT_bool (by omega) (gT_ret ⟨rfl, r1, h⟩))) (fun _ => ?_)
  refine gT_v1 (A := fun v u => (0 ≤ v ∧ v ≤ 1) ∧ LJ p c u ∧ (v ≠ 0 → LJ p (c + 1) u)) (l_82 h) (fun v5 s4 h4 => ?_)
  refine gT_ite (fun _ => gT_map (gT_bool (by omega) (gT_ret ⟨rfl, r1, h4.2.1⟩))) (fun hn => ?_)
  refine gT_v1 (A := fun v u => (0 ≤ v ∧ v ≤ 1) ∧ LJ p (c + 1) u) (hR (h4.2.2 hn)) (fun v8 s7 h7 => ?_)
  refine gT_ite (fun _ => gT_ret ⟨⟨rfl, rfl, by first | decide | omega | (dsimp only; omega), by dsimp only; omega, LJ_dn h7.2 (by omega)⟩, by dsimp only; omega⟩) (fun _ => ?_)
  refine gT_v1 (A := fun v u => (0 ≤ v ∧ v ≤ 1) ∧ LJ p (c + 1 - 1) u) (l_45 h7.2) (fun v11 s10 h10 => ?_)
  exact gT_ite (fun _ => gT_ret ⟨⟨rfl, rfl, by first | decide | omega | (dsimp only; omega), by dsimp only; omega, LJ_dn h10.2 (by omega)⟩, by dsimp only; omega⟩) (fun _ => gT_ret ⟨⟨rfl, rfl, by first | decide | omega | (dsimp only; omega), by dsimp only; omega, LJ_dn h10.2 (by omega)⟩, by dsimp only; omega⟩)
theorem l_48 {R : Nat → Int → gS → Option gO} {d : Int} (hR : ∀ {c : Int} {s : gS}, LJ p c s → gT (R 7 d s) (fun r => r.1 = 1 ∧ (0 ≤ r.2.1 ∧ r.2.1 ≤ 1) ∧ LJ p c r.2.2.2)) (h : LJ p c s) : gT (fo_48 R 7 d s) (fun r => r.1 = 1 ∧ (0 ≤ r.2.1 ∧ r.2.1 ≤ 1) ∧ LJ p c r.2.2.2) := by
  unfold fo_48
  refine gT_v1 (A := fun v u => (0 ≤ v ∧ v ≤ 1) ∧ LJ p c u) (hR h) (fun v2 s1 h1 => ?_)
  refine gT_loop (fun y => y.1 = 7 ∧ y.2.1 = d ∧ (0 ≤ y.2.2.1 ∧ y.2.2.1 ≤ 1) ∧ (0 ≤ y.2.2.2.1 ∧ y.2.2.2.1 ≤ 400) ∧ LJ p c y.2.2.2.2) (fun y => (400 - y.2.2.2.1).toNat) (fun y hy => ?_) ⟨rfl, rfl, h1.1, by first | decide | omega | (dsimp only; omega), h1.2⟩
  obtain ⟨x0, x1, x2, x3, s⟩ := y
  obtain ⟨e0, e1, r1, r2, h⟩ := hy
  dsimp only at e0 e1 r1 r2 h
  subst e0 e1
  have e5 := g32_eq (v := x3 + 1) (by omega) (by omega)
  show gT (sb_48_8 R 7 x1 x2 x3 s) _
  unfold sb_48_8
  refine gT_ite (fun h5 => ?_) (fun _ => gT_map (gT_bool (by omega) (gT_ret ⟨rfl, r1, h⟩)))
  refine gT_ite (fun _ => gT_map (gT_bool (by omega) (gT_ret ⟨rfl, r1, h⟩))) (fun _ => ?_)
  refine gT_v1 (A := fun v u => (0 ≤ v ∧ v ≤ 1) ∧ LJ p c u ∧ (v ≠ 0 → LJ p (c + 1) u)) (l_82 h) (fun v5 s4 h4 => ?_)
  refine gT_ite (fun _ => gT_map (gT_bool (by omega) (gT_ret ⟨rfl, r1, h4.2.1⟩))) (fun hn => ?_)
  refine gT_v1 (A := fun v u => (0 ≤ v ∧ v ≤ 1) ∧ LJ p (c + 1) u) (hR (h4.2.2 hn)) (fun v8 s7 h7 => ?_)
  refine gT_ite (fun _ => gT_ret ⟨⟨rfl, rfl, by first | decide | omega | (dsimp only; omega), by dsimp only; omega, LJ_dn h7.2 (by omega)⟩, by dsimp only; omega⟩) (fun _ => ?_)
  refine gT_v1 (A := fun v u => (0 ≤ v ∧ v ≤ 1) ∧ LJ p (c + 1 - 1) u) (l_45 h7.2) (fun v11 s10 h10 => ?_)
  exact gT_ite (fun _ => gT_ret ⟨⟨rfl, rfl, by first | decide | omega | (dsimp only; omega), by dsimp only; omega, LJ_dn h10.2 (by omega)⟩, by dsimp only; omega⟩) (fun _ => gT_ret ⟨⟨rfl, rfl, by first | decide | omega | (dsimp only; omega), by dsimp only; omega, LJ_dn h10.2 (by omega)⟩, by dsimp only; omega⟩)
theorem l_49 {R S : Nat → Int → gS → Option gO} {d : Int} (hd : 0 ≤ d ∧ d ≤ 6) (hR : d < 6 → ∀ {c : Int} {s : gS}, LJ p c s → gT (R 7 (d + 1) s) (fun r => r.1 = 1 ∧ (0 ≤ r.2.1 ∧ r.2.1 ≤ 1) ∧ LJ p c r.2.2.2)) (hS : d < 6 → ∀ {c : Int} {s : gS}, LJ p c s → gT (S 7 (d + 1) s) (fun r => r.1 = 1 ∧ (0 ≤ r.2.1 ∧ r.2.1 ≤ 1) ∧ LJ p c r.2.2.2)) (h : LJ p c s) : gT (fo_49 R S 7 d s) (fun r => r.1 = 1 ∧ (0 ≤ r.2.1 ∧ r.2.1 ≤ 1) ∧ LJ p c r.2.2.2) := by
  have ed := g32_eq (v := d + 1) (by omega) (by omega)
  have hdeep : ∀ x : Int, gI s 1 2 ≠ 0 → gT (fb_49_26 R S 7 d x s) (fun r => r.1 = 1 ∧ (0 ≤ r.2.1 ∧ r.2.1 ≤ 1) ∧ LJ p c r.2.2.2) := by
    intro x hk
    unfold fb_49_26
    refine gT_ite (fun h6 => ?_) (fun _ => gT_ret ⟨rfl, by first | decide | omega | (dsimp only; omega), h⟩)
    rw [r_70 h.1, ed]
    refine gT_v0 (A := fun u => LJ p (c + 1) u) (l_78 h hk) (fun s34 h34 => ?_)
    refine gT_ite (fun _ => ?_) (fun _ => ?_)
    · refine gT_v1 (A := fun v u => (0 ≤ v ∧ v ≤ 1) ∧ LJ p (c + 1) u) (hR h6 h34) (fun v37 s36 h36 => ?_)
      refine gT_ite (fun _ => gT_ret ⟨rfl, by first | decide | omega | (dsimp only; omega), LJ_dn h36.2 (by omega)⟩) (fun _ => ?_)
      refine gT_v1 (A := fun v u => (0 ≤ v ∧ v ≤ 1) ∧ LJ p (c + 1) u ∧ (v ≠ 0 → LJ p (c + 1 + 1) u)) (l_83 h36.2) (fun v40 s39 h39 => ?_)
      exact gT_ite (fun _ => gT_ret ⟨rfl, by first | decide | omega | (dsimp only; omega), LJ_dn h39.2.1 (by omega)⟩) (fun _ => gT_ret ⟨rfl, by first | decide | omega | (dsimp only; omega), LJ_dn h39.2.1 (by omega)⟩)
    · refine gT_v1 (A := fun v u => (0 ≤ v ∧ v ≤ 1) ∧ LJ p (c + 1) u) (hS h6 h34) (fun v43 s42 h42 => ?_)
      refine gT_ite (fun _ => gT_ret ⟨rfl, by first | decide | omega | (dsimp only; omega), LJ_dn h42.2 (by omega)⟩) (fun _ => ?_)
      refine gT_v1 (A := fun v u => (0 ≤ v ∧ v ≤ 1) ∧ LJ p (c + 1 - 1) u) (l_45 h42.2) (fun v46 s45 h45 => ?_)
      exact gT_ite (fun _ => gT_ret ⟨rfl, by first | decide | omega | (dsimp only; omega), LJ_dn h45.2 (by omega)⟩) (fun _ => gT_ret ⟨rfl, by first | decide | omega | (dsimp only; omega), LJ_dn h45.2 (by omega)⟩)
  unfold fo_49
  have e70 := r_70 h.1
  rw [e70]
  refine gT_v1 (A := fun v u => (0 ≤ v ∧ v ≤ 1 ∧ (v = 1 → gI s 1 2 = 1 ∧ gI s 1 4 = gI s 1 3 + gsl 33)) ∧ u = s) (c_80 h.1 t10_1) (fun v2 s1 h1 => ?_)
  obtain ⟨r2, e1⟩ := h1
  subst e1
  refine gT_ite (fun _ => ?_) (fun h0 => hdeep _ (by have := r2.2.2 (by omega); omega))
  rw [e70]
  refine gT_v1 (A := fun v u => (0 ≤ v ∧ v ≤ 1 ∧ (v = 1 → gI s1 1 2 = 3)) ∧ u = s1) (c_81 h.1 t10_1) (fun v5 s4 h4 => ?_)
  obtain ⟨r5, e1⟩ := h4
  subst e1
  refine gT_ite (fun _ => ?_) (fun h0 => hdeep _ (by have := r5.2.2 (by omega); omega))
  refine gT_v1 (A := fun v u => (0 ≤ v ∧ v ≤ 1) ∧ LJ p c u ∧ (v ≠ 0 → LJ p (c + 1) u)) (l_82 h) (fun v8 s7 h7 => ?_)
  refine gT_ite (fun _ => ?_) (fun hn => ?_)
  rotate_left
  · refine gT_v1 (A := fun v u => (0 ≤ v ∧ v ≤ 1) ∧ LJ p (c + 1 - 1) u) (l_45 (h7.2.2 hn)) (fun v32 s31 h31 => ?_)
    exact gT_ret ⟨rfl, h31.1, LJ_dn h31.2 (by omega)⟩
  refine gT_v1 (A := fun v u => (0 ≤ v ∧ v ≤ 1) ∧ LJ p c u ∧ (v ≠ 0 → LJ p (c + 1) u)) (l_82 h7.2.1) (fun v11 s10 h10 => ?_)
  refine gT_ite (fun _ => ?_) (fun hn => ?_)
  rotate_left
  · refine gT_v1 (A := fun v u => (0 ≤ v ∧ v ≤ 1) ∧ LJ p (c + 1 - 1) u) (l_45 (h10.2.2 hn)) (fun v32 s31 h31 => ?_)
    exact gT_ret ⟨rfl, h31.1, LJ_dn h31.2 (by omega)⟩
  have hrest : ∀ (x : Int) (u : gS), LJ p (c + 1) u → gT (fb_49_176 R S 7 x u) (fun r => r.1 = 1 ∧ (0 ≤ r.2.1 ∧ r.2.1 ≤ 1) ∧ LJ p c r.2.2.2) := by
    intro x u hu
    unfold fb_49_176
    refine gT_v1 (A := fun v u => (0 ≤ v ∧ v ≤ 1) ∧ LJ p (c + 1) u) (l_50 hu) (fun v23 s22 h22 => ?_)
    refine gT_ite (fun _ => gT_ret ⟨rfl, by first | decide | omega | (dsimp only; omega), LJ_dn h22.2 (by omega)⟩) (fun _ => ?_)
    have he : ∀ w : Int, gT (fb_49_197 R S w 7 s22) (fun r => r.1 = 1 ∧ (0 ≤ r.2.1 ∧ r.2.1 ≤ 1) ∧ LJ p c r.2.2.2) := by
      intro w
      unfold fb_49_197
      refine gT_v1 (A := fun v u => (0 ≤ v ∧ v ≤ 1) ∧ LJ p (c + 1 - 1) u) (l_45 h22.2) (fun v26 s25 h25 => ?_)
      exact gT_ite (fun _ => gT_ret ⟨rfl, by first | decide | omega | (dsimp only; omega), LJ_dn h25.2 (by omega)⟩) (fun _ => gT_ret ⟨rfl, by first | decide | omega | (dsimp only; omega), LJ_dn h25.2 (by omega)⟩)
    exact gT_ite (fun _ => he _) (fun _ => he _)
  refine gT_v1 (A := fun v u => (0 ≤ v ∧ v ≤ 1) ∧ LJ p c u) (l_50 h10.2.1) (fun v14 s13 h13 => ?_)
  refine gT_ite (fun _ => gT_ret ⟨rfl, by first | decide | omega | (dsimp only; omega), h13.2⟩) (fun _ => ?_)
  refine gT_v1 (A := fun v u => (0 ≤ v ∧ v ≤ 1) ∧ LJ p c u ∧ (v ≠ 0 → LJ p (c + 1) u)) (l_83 h13.2) (fun v17 s16 h16 => ?_)
  refine gT_ite (fun _ => ?_) (fun hn => hrest _ _ (h16.2.2 hn))
  refine gT_v1 (A := fun v u => (0 ≤ v ∧ v ≤ 1) ∧ LJ p c u ∧ (v ≠ 0 → LJ p (c + 1) u)) (l_83 h16.2.1) (fun v20 s19 h19 => ?_)
  exact gT_ite (fun _ => gT_ret ⟨rfl, by first | decide | omega | (dsimp only; omega), h19.2.1⟩) (fun hn => hrest _ _ (h19.2.2 hn))
theorem l_rg (n : Nat) : ∀ {d c : Int} {s : gS}, 0 ≤ d ∧ d ≤ 6 → LJ p c s → (3 * (6 - d) + 3 ≤ n → gT (fn_47 n 7 d s) (fun r => r.1 = 1 ∧ (0 ≤ r.2.1 ∧ r.2.1 ≤ 1) ∧ LJ p c r.2.2.2)) ∧ (3 * (6 - d) + 2 ≤ n → gT (fn_48 n 7 d s) (fun r => r.1 = 1 ∧ (0 ≤ r.2.1 ∧ r.2.1 ≤ 1) ∧ LJ p c r.2.2.2)) ∧ (3 * (6 - d) + 1 ≤ n → gT (fn_49 n 7 d s) (fun r => r.1 = 1 ∧ (0 ≤ r.2.1 ∧ r.2.1 ≤ 1) ∧ LJ p c r.2.2.2)) := by
  induction n with
  | zero => intro d c s hd h; exact ⟨fun e => by omega, fun e => by omega, fun e => by omega⟩
  | succ n ih =>
    intro d c s hd h
    refine ⟨fun e => ?_, fun e => ?_, fun e => ?_⟩
    · exact l_47 (R := fn_48 n) (fun h => (ih hd h).2.1 (by omega)) h
    · exact l_48 (R := fn_49 n) (fun h => (ih hd h).2.2 (by omega)) h
    · exact l_49 (R := fn_47 n) (S := fn_49 n) hd (fun h6 _ _ h => (ih (by omega) h).1 (by omega)) (fun h6 _ _ h => (ih (by omega) h).2.2 (by omega)) h
theorem l_f47 (h : LJ p c s) : gT (f_47 7 0 s) (fun r => r.1 = 1 ∧ (0 ≤ r.2.1 ∧ r.2.1 ≤ 1) ∧ LJ p c r.2.2.2) := (l_rg 24 (by decide) h).1 (by decide)
theorem gsl_28 : gsl 28 = 4 := by decide +kernel
theorem gsl_29 : gsl 29 = 5 := by decide +kernel
theorem l_46 (h : LJ p c s) : gT (f_46 7 s) (fun r => r.1 = 1 ∧ (0 ≤ r.2.1 ∧ r.2.1 ≤ 1) ∧ J p r.2.2.2 ∧ (r.2.1 ≠ 0 → LJ p (c + 3) r.2.2.2)) := by
  have e70 := r_70 h.1
  have hgo : ∀ x : Int, gI s 1 3 + 4 ≤ gI s 1 4 → gT (fb_46_28 7 x s) (fun r => r.1 = 1 ∧ (0 ≤ r.2.1 ∧ r.2.1 ≤ 1) ∧ J p r.2.2.2 ∧ (r.2.1 ≠ 0 → LJ p (c + 3) r.2.2.2)) := by
    intro x hx
    unfold fb_46_28
    rw [e70]
    refine gT_v0 (A := fun u => LJ p (c + 4) u) (l_78n 4 h hx) (fun s7 h7 => ?_)
    refine gT_v1 (A := fun v u => LJ p (c + 4) u ∧ (v ≠ -1 → LJ p (c + 4 + 1) u)) (l_84 h7) (fun v10 s9 h9 => ?_)
    refine gT_ite (fun _ => gT_ret ⟨rfl, by first | decide | omega | (dsimp only; omega), h9.1.1, fun e => absurd rfl e⟩) (fun hn => ?_)
    have h9 := h9.2 hn
    have hend : ∀ (w : Int) (u : gS), LJ p (c + 4) u → gT (fb_46_78 7 x v10 w u) (fun r => r.1 = 1 ∧ (0 ≤ r.2.1 ∧ r.2.1 ≤ 1) ∧ J p r.2.2.2 ∧ (r.2.1 ≠ 0 → LJ p (c + 3) r.2.2.2)) := by
      intro w u hu
      unfold fb_46_78
      have he : ∀ z : Int, gT (fb_46_97 v10 z 7 u) (fun r => r.1 = 1 ∧ (0 ≤ r.2.1 ∧ r.2.1 ≤ 1) ∧ J p r.2.2.2 ∧ (r.2.1 ≠ 0 → LJ p (c + 3) r.2.2.2)) := by
        intro z
        unfold fb_46_97
        refine gT_v1 (A := fun v u => (0 ≤ v ∧ v ≤ 1) ∧ LJ p (c + 4 - 1) u) (l_45 hu) (fun v18 s17 h17 => ?_)
        exact gT_ite (fun _ => gT_ret ⟨rfl, by first | decide | omega | (dsimp only; omega), h17.2.1, fun e => absurd rfl e⟩) (fun _ => gT_ret ⟨rfl, by first | decide | omega | (dsimp only; omega), h17.2.1, fun _ => LJ_dn h17.2 (by omega)⟩)
      exact gT_ite (fun _ => gT_ret ⟨rfl, by first | decide | omega | (dsimp only; omega), hu.1, fun e => absurd rfl e⟩) (fun _ => gT_ite (fun _ => he _) (fun _ => he _))
    refine gT_v1 (A := fun v u => (0 ≤ v ∧ v ≤ 1) ∧ LJ p (c + 4 + 1) u ∧ (v ≠ 0 → LJ p (c + 4 + 1 + 1) u)) (l_82 h9) (fun v12 s11 h11 => ?_)
    refine gT_ite (fun _ => ?_) (fun _ => ?_)
    · refine gT_v1 (A := fun v u => (0 ≤ v ∧ v ≤ 1) ∧ LJ p (c + 4 + 1 - 1) u) (l_45 h11.2.1) (fun v15 s14 h14 => ?_)
      exact hend _ _ (LJ_dn h14.2 (by omega))
    · refine gT_v1 (A := fun v u => (0 ≤ v ∧ v ≤ 1) ∧ LJ p (c + 4 + 1) u) (l_f47 h11.2.1) (fun v21 s20 h20 => ?_)
      exact hend _ _ (LJ_dn h20.2 (by omega))
  unfold f_46
  rw [e70]
  refine gT_v1 (A := fun v u => (0 ≤ v ∧ v ≤ 1 ∧ (v = 1 → gI s 1 2 = 1 ∧ gI s 1 4 = gI s 1 3 + gsl 28)) ∧ u = s) (c_80 h.1 t10_1) (fun v2 s1 h1 => ?_)
  obtain ⟨r2, e1⟩ := h1
  subst e1
  have g28 := gsl_28
  have g29 := gsl_29
  refine gT_ite (fun _ => ?_) (fun h0 => hgo _ (by have := r2.2.2 (by omega); omega))
  rw [e70]
  refine gT_v1 (A := fun v u => (0 ≤ v ∧ v ≤ 1 ∧ (v = 1 → gI s1 1 2 = 1 ∧ gI s1 1 4 = gI s1 1 3 + gsl 29)) ∧ u = s1) (c_80 h.1 t10_1) (fun v5 s4 h4 => ?_)
  obtain ⟨r5, e1⟩ := h4
  subst e1
  exact gT_ite (fun _ => gT_ret ⟨rfl, by first | decide | omega | (dsimp only; omega), h.1, fun e => absurd rfl e⟩) (fun h0 => hgo _ (by have := r5.2.2 (by omega); omega))
/-- what is old stays -/
theorem J_ext (h : J p s) (hn : gn s ≤ gn s') (ho : ∀ a, a < gn s → gK s' a = gK s a ∧ ∀ k, gI s' a k = gI s a k ∧ gR s' a k = gR s a k) : J p s' := by
  have h9 := h.1.1
  have hl : ∀ x, Jl s x → Jl s' x := fun x hx => by
    obtain ⟨h1, h2, h3⟩ := hx
    unfold Jl glen at *
    rw [((ho x h1.2).2 1).2, (ho _ h2.2).1]
    exact ⟨⟨h1.1, by omega⟩, ⟨h2.1, by omega⟩, h3⟩
  refine ⟨⟨by omega, fun a k ha hc => ?_, fun a k ha q hq => ?_, fun a ha h0 => ?_⟩, ?_⟩
  · rw [((ho a (by omega)).2 k).2]; exact h.1.2.1 a k ha hc
  · rw [((ho a (by omega)).2 k).1]; exact h.1.2.2.1 a k ha q hq
  · rw [((ho a (by omega)).2 11).2]; exact (h.1.2.2.2 a ha h0).imp id (hl _)
  · exact TKG h.2 (fun b j hb => ((ho b (by omega)).2 j).1)
/-- a law is made of the codes -/
theorem l_made {E : Nat → gS → Option gO} (hE : ∀ n u, E n u = if n = 0 then none else some (1, 0, n, u)) {x1 : Int} (h : J p s) (sz : Int) (hz : 0 ≤ sz ∧ sz < 400) (b : Nat) : gT ((f_274 b sz (gnw s 4)).bind (gvr (fun v18 s17 => (f_42 (gn s) x1 v18 s17).bind (gv0 (fun s19 => E (gn s) s19))))) (fun r => r.1 = 1 ∧ (r.2.2.1 = 0 ∨ Jl r.2.2.2 r.2.2.1) ∧ J p r.2.2.2) := by
  have h9 := h.1.1
  unfold f_274
  rw [if_neg (by omega)]
  refine gT_vr (A := fun v u => v = gn s + 1 ∧ u = gcpy (gnw (gnw s 4) (100 + 8 * sz.toNat)) b 0 (gn s + 1) 0 sz.toNat) (gT_chk hz.1 hz.2 ?_) (fun v18 s17 hA => ?_)
  · refine gT_ite (fun e => ?_) (fun _ => gT_ret ⟨rfl, rfl, rfl⟩)
    have : gn (gnw s 4) = gn s + 1 := rfl
    omega
  obtain ⟨rfl, e⟩ := hA
  unfold f_42
  refine gT_v0 (A := fun u => u = gwr (gw s17 (gn s) 0 x1) (gn s) 1 (gn s + 1)) (gT_ret ⟨rfl, rfl⟩) (fun s19 e19 => ?_)
  rw [hE, if_neg (by omega)]
  have q1 : gn s19 = gn s + 2 := by rw [e19, e]; rfl
  have q2 : gR s19 (gn s) 1 = gn s + 1 := by
    rw [e19]
    show (if gn s = gn s ∧ 1 = 1 then gn s + 1 else _) = _
    rw [if_pos ⟨rfl, rfl⟩]
  have q3 : gK s19 (gn s + 1) = 100 + 8 * sz.toNat := by
    rw [e19, e]
    show (if gn s + 1 = gn s + 1 then 100 + 8 * sz.toNat else _) = _
    rw [if_pos rfl]
  refine gT_ret ⟨rfl, Or.inr ⟨⟨h9, by show gn s < gn s19; omega⟩, ⟨?_, ?_⟩, ?_⟩, J_ext h (by show gn s ≤ gn s19; omega) (fun a ha => ?_)⟩
  · show 232 ≤ gR s19 (gn s) 1
    omega
  · show gR s19 (gn s) 1 < gn s19
    omega
  · show glen s19 (gR s19 (gn s) 1) ≤ 400
    unfold glen
    rw [q2, q3]
    unfold gL4
    omega
  · dsimp only
    rw [e19, e]
    have ha0 : a ≠ gn s := by omega
    have ha1 : a ≠ gn s + 1 := by omega
    have hb0 : a ≠ s.1 := ha0
    have hb1 : a ≠ s.1 + 1 := ha1
    refine ⟨?_, fun k => ⟨?_, ?_⟩⟩
    · show (if a = gn s + 1 then 100 + 8 * sz.toNat else if a = gn s then 4 else gK s a) = _
      rw [if_neg ha1, if_neg ha0]
    · show (if a = gn s ∧ k = 0 then x1 else if a = gn s + 1 ∧ 0 ≤ k ∧ k < 0 + sz.toNat then gI (gnw (gnw s 4) (100 + 8 * sz.toNat)) b (0 + (k - 0)) else if a = gn s + 1 then 0 else if a = gn s then 0 else gI s a k) = _
      rw [if_neg (fun z => ha0 z.1), if_neg (fun z => ha1 z.1), if_neg ha1, if_neg ha0]
    · show (if a = gn s ∧ k = 1 then gn s + 1 else if a = gn s + 1 then 0 else if a = gn s then 0 else gR s a k) = _
      rw [if_neg (fun z => ha0 z.1), if_neg ha1, if_neg ha0]
theorem l_44 (h : J p s) : gT (f_44 7 s) (fun r => r.1 = 1 ∧ (r.2.2.1 = 0 ∨ Jl r.2.2.2 r.2.2.1) ∧ J p r.2.2.2) := by
  unfold f_44
  extract_lets s1
  have j1 : J p s1 := J_wf h t5_7 rfl (by decide) (by decide) (fun q hq => by cases hq; decide)
  have e1 : gI s1 7 2 = 0 := rd_same (show s1 = gw s 7 2 0 from rfl)
  refine gT_v0 (A := fun u => LJ p 0 u) ?_ (fun s2 h2 => ?_)
  · rw [r_70 j1]
    unfold f_77
    extract_lets s2
    have j2 : J p s2 := J_wf j1 t10_1 rfl (by decide) (by decide) (fun q hq => by cases hq; decide)
    have e2 : gI s2 1 4 = 0 := rd_same (show s2 = gw s1 1 4 0 from rfl)
    have e3 : gI s2 7 2 = gI s1 7 2 := by
      show (if 7 = 1 ∧ 2 = 4 then (0 : Int) else gI s1 7 2) = _
      rw [if_neg (by decide)]
    refine gT_v0 (A := fun u => LJ p 0 u) (gT_mono (c_78 j2 t10_1) (fun r hr => ⟨hr.1, hr.2.1, hr.2.2.2.1, ?_⟩)) (fun s3 h3 => gT_ret ⟨rfl, h3⟩)
    have e := hr.2.2.1.2 7 2 (by decide)
    have f := hr.2.2.2.2
    rw [e]
    omega
  rw [r_70 h2.1]
  refine gT_v1 (A := fun v u => u = s2) ?_ (fun v5 s4 e4 => ?_)
  · unfold f_79
    exact gT_ite (fun _ => gT_ret ⟨rfl, rfl⟩) (fun _ => gT_ret ⟨rfl, rfl⟩)
  subst e4
  refine gT_ite (fun _ => ?_) (fun _ => ?_)
  rotate_left
  · exact l_made (E := fun n u => if n = 0 then none else some (1, 0, n, u)) (fun _ _ => rfl) h2.1 0 (by decide) _
  refine gT_loop (fun y => y.1 = 7 ∧ (1 ≤ y.2.1 ∧ y.2.1 ≤ 13) ∧ LJ p 0 y.2.2) (fun y => (13 - y.2.1).toNat) (fun y hy => ?_) ⟨rfl, by first | decide | omega | (dsimp only; omega), h2⟩
  obtain ⟨x0, x1, s⟩ := y
  obtain ⟨e0, r1, h⟩ := hy
  dsimp only at e0 r1 h
  subst e0
  have e5 := g32_eq (v := x1 + 1) (by omega) (by omega)
  show gT (sb_44_41 7 x1 s) _
  unfold sb_44_41
  refine gT_ite (fun _ => gT_map (gT_ret ⟨rfl, Or.inl rfl, h.1⟩)) (fun _ => ?_)
  refine gT_v1 (A := fun v u => (0 ≤ v ∧ v ≤ 1) ∧ J p u ∧ (v ≠ 0 → LJ p (0 + 3) u)) (l_46 h) (fun v8 s7 h7 => ?_)
  refine gT_ite (fun _ => gT_map (gT_ret ⟨rfl, Or.inl rfl, h7.2.1⟩)) (fun hn => ?_)
  have h7 := h7.2.2 hn
  rw [r_70 h7.1]
  refine gT_v1 (A := fun v u => u = s7) ?_ (fun v11 s10 e10 => ?_)
  · unfold f_79
    exact gT_ite (fun _ => gT_ret ⟨rfl, rfl⟩) (fun _ => gT_ret ⟨rfl, rfl⟩)
  subst e10
  refine gT_ite (fun _ => ?_) (fun _ => gT_map ?_)
  · refine gT_v1 (A := fun v u => (0 ≤ v ∧ v ≤ 1) ∧ LJ p (0 + 3) u ∧ (v ≠ 0 → LJ p (0 + 3 + 1) u)) ?_ (fun v14 s13 h13 => ?_)
    · exact l_83 h7
    exact gT_ite (fun _ => gT_map (gT_ret ⟨rfl, Or.inl rfl, h13.2.1.1⟩)) (fun _ => gT_ret ⟨⟨rfl, by dsimp only; omega, LJ_dn h13.2.1 (by omega)⟩, by dsimp only; omega⟩)
  · have h9 := h7.1.1.1
    have r2 := J_f (i := 2) h7.1 t5_7 rfl (by decide) rfl
    have r3 := J_f (i := 3) h7.1 t10_1 rfl (by decide) rfl
    have g := h7.2.2
    have eI : gI (gnw s10 4) 7 2 = gI s10 7 2 := by
      show (if 7 = s10.1 then 0 else s10.2.2.1 7 2) = s10.2.2.1 7 2
      rw [if_neg (fun e => by unfold gn at h9; omega)]
    extract_lets s16
    have eI : gI s16 7 2 = gI s10 7 2 := eI
    exact l_made (E := fun n u => if n = 0 then none else some (1, 0, n, u)) (fun _ _ => rfl) h7.1 _ (by rw [eI]; omega) _
theorem d_90 (hp : -1 ≤ p.1 ∧ p.1 ≤ 0) (h : J p s) {a0 : Nat} (t0 : T 11 a0) : gT (f_90 a0 s) (fun r => (r.1 = 1 ∧ True ∧ J (p.1, 0, p.2.2) r.2.2.2) ∨ (2 ≤ r.1 ∧ r.1 ≤ 6 ∧ (r.1 = 2) ∧ J (p.1, 0, p.2.2) r.2.2.2)) := by
  unfold f_90
  have e3 := T_5 (T_f (i := 3) h t0 (by decide) rfl rfl)
  rw [e3]
  refine gT_vr (A := fun v u => (v = 0 ∨ Jl u v) ∧ J p u) (l_44 h) (fun v2 s1 h1 => ?_)
  obtain ⟨l1, j1⟩ := h1
  have hend : ∀ w : Int, gT (fb_90_24 a0 v2 w a0 s1) (fun r => (r.1 = 1 ∧ True ∧ J (p.1, 0, p.2.2) r.2.2.2) ∨ (2 ≤ r.1 ∧ r.1 ≤ 6 ∧ (r.1 = 2) ∧ J (p.1, 0, p.2.2) r.2.2.2)) := by
    intro w
    unfold fb_90_24
    extract_lets s3 s4 s5 s6
    have j3 : J p s3 := J_wf j1 t0 rfl (by decide) (by decide) (fun q hq => by cases hq)
    have j4 : J (p.1, 0, p.2.2) s4 := J_l j3 (T_f (i := 0) j3 t0 (by decide) rfl rfl) (by decide)
    refine gT_ite (fun _ => gT_ret (Or.inr ⟨by first | decide | omega | (dsimp only; omega), by first | decide | omega | (dsimp only; omega), rfl, J_nw j4⟩)) (fun hn => ?_)
    have j5 : J (p.1, 0, p.2.2) s5 := J_gwr j4 (T_f (i := 4) j4 t0 (by decide) rfl rfl) (l1.imp id (fun z => z))
    have j6 : J (p.1, 0, p.2.2) s6 := J_wf j5 t0 rfl (by decide) (by decide) (fun q hq => by cases hq)
    rw [if_neg hn]
    exact gT_ret (Or.inl ⟨rfl, trivial, j6⟩)
  exact gT_ite (fun _ => hend _) (fun _ => hend _)
end Lr

end
section
theorem t12 : T 12 217 := ⟨by first | decide | omega | (dsimp only; omega), by decide +kernel⟩
/-- rows of the model that go along with its m -/
noncomputable def rwi (f i : Nat) : Nat := if f = 5 then i % 340 else i
section Mr
variable {p : gP} {s s2 s3 s4 : gS} {a a' f f' i j : Nat} {v : Int}
theorem r_rw (h : J p s) (t : T 12 a) (hf : f = 1 ∨ f = 2 ∨ f = 4 ∨ f = 5) : (gR s a f < 232 ∧ 13 ≤ k0 (gR s a f)) ∧ ∀ i, arn (gR s a f) i = mrn (rwi f i) := by
  rw [T_12 t]
  have e := k0_sp
  rcases hf with rfl | rfl | rfl | rfl
  · rw [J_r (r := 218) h rfl (by decide +kernel) (by decide +kernel)]
    exact ⟨⟨by first | decide | omega | (dsimp only; omega), by omega⟩, fun i => rfl⟩
  · rw [J_r (r := 219) h rfl (by decide +kernel) (by decide +kernel)]
    exact ⟨⟨by first | decide | omega | (dsimp only; omega), by omega⟩, fun i => rfl⟩
  · rw [J_r (r := 220) h rfl (by decide +kernel) (by decide +kernel)]
    exact ⟨⟨by first | decide | omega | (dsimp only; omega), by omega⟩, fun i => rfl⟩
  · rw [J_r (r := 221) h rfl (by decide +kernel) (by decide +kernel)]
    exact ⟨⟨by first | decide | omega | (dsimp only; omega), by omega⟩, fun i => rfl⟩
theorem J_cpm (h : J p s) (h2 : J p s2) (h3 : J p s3) (h4 : J p s4) (t : T 12 a) (t' : T 12 a') (hf : f = 1 ∨ f = 2 ∨ f = 4 ∨ f = 5) (hf' : f' = 1 ∨ f' = 2 ∨ f' = 4 ∨ f' = 5) (hr : rwi f i = rwi f' j) : J p (gw s (gR s2 a f) i (gI s3 (gR s4 a' f') j)) := by
  obtain ⟨⟨-, k1⟩, e1⟩ := r_rw h2 t hf
  obtain ⟨⟨k2, k3⟩, e2⟩ := r_rw h4 t' hf'
  refine J_wb h k1 (fun q hq => J_ra h3 k2 k3 ?_)
  rw [e2, ← hr, ← e1]
  exact hq
theorem mrn_none {k : Nat} (hk : (13 < k ∧ k < 40 ∧ (k - 16) % 3 ≠ 2) ∨ 76 ≤ k) : mrn k = none := by
  unfold mrn
  rw [if_neg (by omega), if_neg (by omega), if_neg (by omega), if_neg (by omega), if_neg (by omega), if_neg (by omega), if_neg (by omega)]
theorem J_wmf (h : J p s) (h2 : J p s2) (t : T 12 a) {k : Nat} (hk : (13 < k ∧ k < 40 ∧ (k - 16) % 3 ≠ 2) ∨ 76 ≤ k) : J p (gw s (gR s2 a 1) k v) :=
  J_wm h h2 t (fun q hq => by rw [mrn_none hk] at hq; cases hq)
theorem mrn_m {x w : Nat} (hx : x < 6) (hw : w < 6) : mrn (40 + 6 * x + w) = if w = 0 then some (0, 99) else if w = 1 then some (0, 9) else if w = 3 then some (0, 8) else none := by
  unfold mrn
  rw [if_neg (by omega), if_neg (by omega), if_neg (by omega), if_neg (by omega), if_neg (by omega), if_neg (by omega), if_pos (by omega), show (40 + 6 * x + w - 40) % 6 = w by omega]
theorem mrn_s {x : Nat} (hx : x < 8) : mrn (16 + 3 * x + 2) = some (0, 50) := by
  unfold mrn
  rw [if_neg (by omega), if_neg (by omega), if_neg (by omega), if_neg (by omega), if_neg (by omega), if_pos (by omega)]
theorem d_155_2 {x : Int} (_hp : -1 ≤ p.1 ∧ p.1 ≤ 0) (h : J p s) (t : T 12 a) (hx : 0 ≤ x ∧ x ≤ 7) : gT (f_155 a x 2 s) (fun r => r.1 = 1 ∧ (0 ≤ r.2.1 ∧ r.2.1 ≤ 50) ∧ J p r.2.2.2) := by
  have e1 := g32_eq (v := 3 * x) (by omega) (by omega)
  have e2 := g32_eq (v := 16 + 3 * x) (by omega) (by omega)
  have e3 := g32_eq (v := 16 + 3 * x + 2) (by omega) (by omega)
  unfold f_155
  rw [e1, e2, e3]
  refine gT_chk (by omega) (by omega) ?_
  have ei : (16 + 3 * x + 2).toNat = 16 + 3 * x.toNat + 2 := by omega
  exact gT_ret ⟨rfl, J_m h h t (by rw [ei, mrn_s (by omega)]), h⟩
theorem c_157 {x w : Int} (h : J p s) (t : T 12 a) (hx : 0 ≤ x ∧ x ≤ 5) (hw : 0 ≤ w ∧ w ≤ 5) (hv : (w = 0 → 0 ≤ v ∧ v ≤ 99) ∧ (w = 1 → 0 ≤ v ∧ v ≤ 9) ∧ (w = 3 → 0 ≤ v ∧ v ≤ 8)) : gT (f_157 a x w v s) (fun r => r.1 = 0 ∧ J p r.2.2.2 ∧ r.2.2.2 = gw s 218 (40 + 6 * x.toNat + w.toNat) v) := by
  have e1 := g32_eq (v := 6 * x) (by omega) (by omega)
  have e2 := g32_eq (v := 40 + 6 * x) (by omega) (by omega)
  have e3 := g32_eq (v := 40 + 6 * x + w) (by omega) (by omega)
  unfold f_157
  rw [e1, e2, e3]
  refine gT_chk (by omega) (by omega) ?_
  extract_lets s1
  have ei : (40 + 6 * x + w).toNat = 40 + 6 * x.toNat + w.toNat := by omega
  refine gT_ret ⟨rfl, J_wm h h t (fun q hq => ?_), by show gw s (gR s a 1) _ v = _; rw [r_m h t, ei]⟩
  rw [ei, mrn_m (by omega) (by omega)] at hq
  by_cases h0 : w.toNat = 0
  · rw [if_pos h0] at hq
    cases hq
    exact hv.1 (by omega)
  · rw [if_neg h0] at hq
    by_cases h1 : w.toNat = 1
    · rw [if_pos h1] at hq
      cases hq
      exact hv.2.1 (by omega)
    · rw [if_neg h1] at hq
      by_cases h3 : w.toNat = 3
      · rw [if_pos h3] at hq
        cases hq
        exact hv.2.2 (by omega)
      · rw [if_neg h3] at hq
        cases hq
theorem c_156 {x w : Int} (h : J p s) (t : T 12 a) (hx : 0 ≤ x ∧ x ≤ 5) (hw : 0 ≤ w ∧ w ≤ 5) : gT (f_156 a x w s) (fun r => r.1 = 1 ∧ ((w = 0 → 0 ≤ r.2.1 ∧ r.2.1 ≤ 99) ∧ (w = 1 → 0 ≤ r.2.1 ∧ r.2.1 ≤ 9) ∧ (w = 3 → 0 ≤ r.2.1 ∧ r.2.1 ≤ 8)) ∧ r.2.1 = gI s 218 (40 + 6 * x.toNat + w.toNat) ∧ r.2.2.2 = s) := by
  have e1 := g32_eq (v := 6 * x) (by omega) (by omega)
  have e2 := g32_eq (v := 40 + 6 * x) (by omega) (by omega)
  have e3 := g32_eq (v := 40 + 6 * x + w) (by omega) (by omega)
  unfold f_156
  rw [e1, e2, e3]
  refine gT_chk (by omega) (by omega) ?_
  have ei : (40 + 6 * x + w).toNat = 40 + 6 * x.toNat + w.toNat := by omega
  refine gT_ret ⟨rfl, ⟨fun h0 => ?_, fun h0 => ?_, fun h0 => ?_⟩, by show gI s (gR s a 1) _ = _; rw [r_m h t, ei], rfl⟩
  · exact J_m h h t (by rw [ei, mrn_m (by omega) (by omega), if_pos (by omega)])
  · exact J_m h h t (by rw [ei, mrn_m (by omega) (by omega), if_neg (by omega), if_pos (by omega)])
  · exact J_m h h t (by rw [ei, mrn_m (by omega) (by omega), if_neg (by omega), if_neg (by omega), if_pos (by omega)])
theorem d_157_0 {x : Int} (_hp : -1 ≤ p.1 ∧ p.1 ≤ 0) (h : J p s) (t : T 12 a) (hx : 0 ≤ x ∧ x ≤ 5) (r3 : 0 ≤ v ∧ v ≤ 99) : gT (f_157 a x 0 v s) (fun r => r.1 = 0 ∧ J p r.2.2.2) := gT_mono (c_157 h t hx (by decide) ⟨fun _ => r3, fun e => absurd e (by first | decide | omega | (dsimp only; omega)), fun e => absurd e (by first | decide | omega | (dsimp only; omega))⟩) (fun _ hr => ⟨hr.1, hr.2.1⟩)
theorem d_156_0 {x : Int} (_hp : -1 ≤ p.1 ∧ p.1 ≤ 0) (h : J p s) (t : T 12 a) (hx : 0 ≤ x ∧ x ≤ 5) : gT (f_156 a x 0 s) (fun r => r.1 = 1 ∧ (0 ≤ r.2.1 ∧ r.2.1 ≤ 99) ∧ J p r.2.2.2) := gT_mono (c_156 h t hx (by decide)) (fun _ hr => ⟨hr.1, hr.2.1.1 rfl, by rw [hr.2.2.2]; exact h⟩)
theorem d_157_1 {x : Int} (_hp : -1 ≤ p.1 ∧ p.1 ≤ 0) (h : J p s) (t : T 12 a) (hx : 0 ≤ x ∧ x ≤ 5) (r3 : 0 ≤ v ∧ v ≤ 9) : gT (f_157 a x 1 v s) (fun r => r.1 = 0 ∧ J p r.2.2.2) := gT_mono (c_157 h t hx (by decide) ⟨fun e => absurd e (by first | decide | omega | (dsimp only; omega)), fun _ => r3, fun e => absurd e (by first | decide | omega | (dsimp only; omega))⟩) (fun _ hr => ⟨hr.1, hr.2.1⟩)
theorem d_156_1 {x : Int} (_hp : -1 ≤ p.1 ∧ p.1 ≤ 0) (h : J p s) (t : T 12 a) (hx : 0 ≤ x ∧ x ≤ 5) : gT (f_156 a x 1 s) (fun r => r.1 = 1 ∧ (0 ≤ r.2.1 ∧ r.2.1 ≤ 9) ∧ J p r.2.2.2) := gT_mono (c_156 h t hx (by decide)) (fun _ hr => ⟨hr.1, hr.2.1.2.1 rfl, by rw [hr.2.2.2]; exact h⟩)
theorem d_156_2 {x : Int} (_hp : -1 ≤ p.1 ∧ p.1 ≤ 0) (h : J p s) (t : T 12 a) (hx : 0 ≤ x ∧ x ≤ 5) : gT (f_156 a x 2 s) (fun r => r.1 = 1 ∧ True ∧ J p r.2.2.2) := gT_mono (c_156 h t hx (by decide)) (fun _ hr => ⟨hr.1, trivial, by rw [hr.2.2.2]; exact h⟩)
theorem d_157_3 {x : Int} (_hp : -1 ≤ p.1 ∧ p.1 ≤ 0) (h : J p s) (t : T 12 a) (hx : 0 ≤ x ∧ x ≤ 5) (r3 : 0 ≤ v ∧ v ≤ 8) : gT (f_157 a x 3 v s) (fun r => r.1 = 0 ∧ J p r.2.2.2) := gT_mono (c_157 h t hx (by decide) ⟨fun e => absurd e (by first | decide | omega | (dsimp only; omega)), fun e => absurd e (by first | decide | omega | (dsimp only; omega)), fun _ => r3⟩) (fun _ hr => ⟨hr.1, hr.2.1⟩)
theorem d_156_3 {x : Int} (_hp : -1 ≤ p.1 ∧ p.1 ≤ 0) (h : J p s) (t : T 12 a) (hx : 0 ≤ x ∧ x ≤ 5) : gT (f_156 a x 3 s) (fun r => r.1 = 1 ∧ (0 ≤ r.2.1 ∧ r.2.1 ≤ 8) ∧ J p r.2.2.2) := gT_mono (c_156 h t hx (by decide)) (fun _ hr => ⟨hr.1, hr.2.1.2.2 rfl, by rw [hr.2.2.2]; exact h⟩)
theorem d_157_4 {x : Int} (_hp : -1 ≤ p.1 ∧ p.1 ≤ 0) (h : J p s) (t : T 12 a) (hx : 0 ≤ x ∧ x ≤ 5) : gT (f_157 a x 4 v s) (fun r => r.1 = 0 ∧ J p r.2.2.2) := gT_mono (c_157 h t hx (by decide) ⟨fun e => absurd e (by first | decide | omega | (dsimp only; omega)), fun e => absurd e (by first | decide | omega | (dsimp only; omega)), fun e => absurd e (by first | decide | omega | (dsimp only; omega))⟩) (fun _ hr => ⟨hr.1, hr.2.1⟩)
theorem d_156_4 {x : Int} (_hp : -1 ≤ p.1 ∧ p.1 ≤ 0) (h : J p s) (t : T 12 a) (hx : 0 ≤ x ∧ x ≤ 5) : gT (f_156 a x 4 s) (fun r => r.1 = 1 ∧ True ∧ J p r.2.2.2) := gT_mono (c_156 h t hx (by decide)) (fun _ hr => ⟨hr.1, trivial, by rw [hr.2.2.2]; exact h⟩)
theorem d_157_5 {x : Int} (_hp : -1 ≤ p.1 ∧ p.1 ≤ 0) (h : J p s) (t : T 12 a) (hx : 0 ≤ x ∧ x ≤ 5) : gT (f_157 a x 5 v s) (fun r => r.1 = 0 ∧ J p r.2.2.2) := gT_mono (c_157 h t hx (by decide) ⟨fun e => absurd e (by first | decide | omega | (dsimp only; omega)), fun e => absurd e (by first | decide | omega | (dsimp only; omega)), fun e => absurd e (by first | decide | omega | (dsimp only; omega))⟩) (fun _ hr => ⟨hr.1, hr.2.1⟩)
theorem d_156_5 {x : Int} (_hp : -1 ≤ p.1 ∧ p.1 ≤ 0) (h : J p s) (t : T 12 a) (hx : 0 ≤ x ∧ x ≤ 5) : gT (f_156 a x 5 s) (fun r => r.1 = 1 ∧ True ∧ J p r.2.2.2) := gT_mono (c_156 h t hx (by decide)) (fun _ hr => ⟨hr.1, trivial, by rw [hr.2.2.2]; exact h⟩)
end Mr

end
section
section Pu
variable {s : gS}
theorem d150_pure {x y z : Int} : gT (f_150 x y z s) (fun r => r.1 = 1 ∧ r.2.2.2 = s) := by
  unfold f_150
  repeat (first | exact gT_ret ⟨rfl, rfl⟩ | refine gT_ite (fun _ => ?_) (fun _ => ?_) | unfold fb_150_14)
theorem d153_pure {x y : Int} : gT (f_153 x y s) (fun r => r.1 = 1 ∧ r.2.2.2 = s) := by
  unfold f_153
  repeat (first | exact gT_ret ⟨rfl, rfl⟩ | refine gT_ite (fun _ => ?_) (fun _ => ?_))
end Pu
/-- all but the reader's place and fault is as it was -/
noncomputable def Fm (s s' : gS) : Prop := (gn s' = gn s ∧ (∀ a, gK s' a = gK s a) ∧ ∀ a k, gR s' a k = gR s a k) ∧ ∀ a k, ¬ (a = 217 ∧ (k = 11 ∨ k = 12)) → gI s' a k = gI s a k
theorem Fm_r (s : gS) : Fm s s := ⟨⟨rfl, fun _ => rfl, fun _ _ => rfl⟩, fun _ _ _ => rfl⟩
theorem Fm_t {s s' s2 : gS} (h : Fm s s') (h2 : Fm s' s2) : Fm s s2 := ⟨⟨h2.1.1.trans h.1.1, fun a => (h2.1.2.1 a).trans (h.1.2.1 a), fun a k => (h2.1.2.2 a k).trans (h.1.2.2 a k)⟩, fun a k hc => (h2.2 a k hc).trans (h.2 a k hc)⟩
theorem Fm_w {s s' : gS} {k : Nat} {v : Int} (h : Fm s s') (hk : k = 11 ∨ k = 12) : Fm s (gw s' 217 k v) := by
  refine ⟨h.1, fun b j hc => ?_⟩
  show (if b = 217 ∧ j = k then v else gI s' b j) = _
  rw [if_neg (fun e => hc ⟨e.1, by rw [e.2]; exact hk⟩)]
  exact h.2 b j hc
noncomputable def Bm (p : gP) (s s' : gS) : Prop := J p s' ∧ Fm s s' ∧ gI s 217 11 ≤ gI s' 217 11 ∧ (gI s' 217 11 ≤ gI s 217 11 ∨ gI s' 217 11 ≤ gI s 217 10) ∧ (gI s' 217 12 = -1 → gI s 217 12 = -1)
section Rm
variable {p : gP} {s s' s2 : gS} {v : Int} {w : Nat}
theorem Bm_r (h : J p s) : Bm p s s := ⟨h, Fm_r s, Int.le_refl _, Or.inl (Int.le_refl _), fun e => e⟩
theorem Bm_e (h : Fm s s') : gI s' 217 10 = gI s 217 10 := h.2 217 10 (by decide)
theorem Bm_t (h : Bm p s s') (h2 : Bm p s' s2) : Bm p s s2 := by
  have e := Bm_e h.2.1
  refine ⟨h2.1, Fm_t h.2.1 h2.2.1, Int.le_trans h.2.2.1 h2.2.2.1, ?_, fun z => h.2.2.2.2 (h2.2.2.2.2 z)⟩
  have a := h.2.2.2.1
  have b := h2.2.2.2.1
  have c := h.2.2.1
  omega
/-- the place goes on by one -/
theorem Bm_at (h : Bm p s s') (hx : gI s' 217 11 < gI s' 217 10) : Bm p s (gw s' 217 11 (g32 (gI s' 217 11 + 1))) ∧ gI (gw s' 217 11 (g32 (gI s' 217 11 + 1))) 217 11 = gI s' 217 11 + 1 := by
  have r1 := J_f (i := 11) h.1 t12 rfl (by decide) rfl
  have r2 := J_f (i := 10) h.1 t12 rfl (by decide) rfl
  have e := g32_eq (v := gI s' 217 11 + 1) (by omega) (by omega)
  rw [e]
  have e1 : gI (gw s' 217 11 (gI s' 217 11 + 1)) 217 11 = gI s' 217 11 + 1 := rd_same rfl
  have e2 : gI (gw s' 217 11 (gI s' 217 11 + 1)) 217 12 = gI s' 217 12 := rd_k (a := 217) (k := 12) rfl (by decide)
  have ee := Bm_e h.2.1
  refine ⟨⟨J_wf h.1 t12 rfl (by decide) (by decide) (fun q hq => by cases hq; dsimp only; omega), Fm_w h.2.1 (Or.inl rfl), ?_, ?_, ?_⟩, e1⟩
  · have := h.2.2.1; omega
  · right; omega
  · rw [e2]; exact h.2.2.2.2
theorem k_168 (h : J p s) (hv : 0 ≤ v ∧ v ≤ 399) : gT (f_168 217 v s) (fun r => r.1 = 1 ∧ r.2.2.2 = s) := by
  have r9 := J_f (i := 9) h t12 rfl (by decide) rfl
  have e := g32_eq (v := gI s 217 9 + v) (by omega) (by omega)
  unfold f_168
  refine gT_ite (fun _ => gT_chk (by omega) (by omega) (gT_ret ⟨rfl, rfl⟩)) (fun _ => ?_)
  rw [e]
  exact gT_chk (by omega) (by omega) (gT_ret ⟨rfl, rfl⟩)
theorem q_150 {x y z : Int} : gT (f_150 x y z s) (fun r => r.1 = 1 ∧ r.2.2.2 = s) := by
  have := d150_pure (x := x) (y := y) (z := z) (s := s)
  exact this
theorem k_169 (h : J p s) : gT (f_169 217 s) (fun r => r.1 = 0 ∧ Bm p s r.2.2.2) := by
  unfold f_169
  refine gT_loop (fun y => y.1 = 217 ∧ Bm p s y.2) (fun y => (400 - gI y.2 217 11).toNat) (fun y hy => ?_) ⟨rfl, Bm_r h⟩
  obtain ⟨x0, u⟩ := y
  obtain ⟨e0, b⟩ := hy
  dsimp only at e0 b
  subst e0
  have r1 := J_f (i := 11) b.1 t12 rfl (by decide) rfl
  have r2 := J_f (i := 10) b.1 t12 rfl (by decide) rfl
  show gT (sb_169_0 217 u) _
  unfold sb_169_0
  refine gT_ite (fun hx => ?_) (fun _ => gT_map (gT_ret ⟨rfl, b⟩))
  refine gT_v1 (A := fun _ z => z = u) (k_168 b.1 (by omega)) (fun v2 s1 e => ?_)
  subst e
  have q := Bm_at b hx
  refine gT_ite (fun _ => gT_ret ⟨⟨rfl, q.1⟩, ?_⟩) (fun _ => gT_map (gT_ret ⟨rfl, b⟩))
  show (400 - gI (gw s1 217 11 (g32 (gI s1 217 11 + 1))) 217 11).toNat < (400 - gI s1 217 11).toNat
  rw [q.2]
  omega
theorem k_170 (h : J p s) : gT (f_170 217 v s) (fun r => r.1 = 1 ∧ (0 ≤ r.2.1 ∧ r.2.1 ≤ 1) ∧ Bm p s r.2.2.2 ∧ (r.2.1 ≠ 0 → gI r.2.2.2 217 11 < gI r.2.2.2 217 10)) := by
  unfold f_170
  refine gT_v0 (A := fun u => Bm p s u) (k_169 h) (fun s1 b => ?_)
  have r1 := J_f (i := 11) b.1 t12 rfl (by decide) rfl
  have r2 := J_f (i := 10) b.1 t12 rfl (by decide) rfl
  refine gT_ite (fun hx => ?_) (fun _ => gT_ret ⟨rfl, by first | decide | omega | (dsimp only; omega), b, fun e => absurd rfl e⟩)
  refine gT_v1 (A := fun _ z => z = s1) (k_168 b.1 (by omega)) (fun v2 s2 e => ?_)
  subst e
  exact gT_ite (fun _ => gT_ret ⟨rfl, by first | decide | omega | (dsimp only; omega), b, fun _ => hx⟩) (fun _ => gT_ret ⟨rfl, by first | decide | omega | (dsimp only; omega), b, fun e => absurd rfl e⟩)
theorem k_171 (h : J p s) (hw : 1 ≤ gsl w) : gT (f_171 217 w s) (fun r => r.1 = 1 ∧ (0 ≤ r.2.1 ∧ r.2.1 ≤ 1) ∧ Bm p s r.2.2.2 ∧ (r.2.1 ≠ 0 → gI s 217 11 + 1 ≤ gI r.2.2.2 217 11 ∧ gI r.2.2.2 217 11 ≤ gI s 217 10)) := by
  have hlen := gtx_le w
  have hsl : gsl w = ((gtx w).length : Int) := rfl
  have hsr := gshr_0 (x := gsl w) (by omega)
  unfold f_171
  refine gT_v0 (A := fun u => Bm p s u) (k_169 h) (fun s1 b => ?_)
  have r1 := J_f (i := 11) b.1 t12 rfl (by decide) rfl
  have r2 := J_f (i := 10) b.1 t12 rfl (by decide) rfl
  have ee := Bm_e b.2.1
  have hcont : ∀ x2 : Int, gI s1 217 11 ≤ x2 → (x2 ≤ gI s1 217 11 ∨ x2 ≤ gI s1 217 10) → gT (fb_171_38 217 w x2 s1) (fun r => r.1 = 1 ∧ (0 ≤ r.2.1 ∧ r.2.1 ≤ 1) ∧ Bm p s r.2.2.2 ∧ (r.2.1 ≠ 0 → gI s 217 11 + 1 ≤ gI r.2.2.2 217 11 ∧ gI r.2.2.2 217 11 ≤ gI s 217 10)) := by
    intro x2 hx2 hx3
    unfold fb_171_38
    refine gT_v1 (A := fun v u => v = gsl w ∧ u = s1) ⟨_, rfl, rfl, hsr, rfl⟩ (fun v9 s8 hA => ?_)
    obtain ⟨rfl, rfl⟩ := hA
    have e1 := g32_eq (v := x2 - gI s8 217 11) (by omega) (by omega)
    refine gT_ite (fun h5 => ?_) (fun _ => gT_ret ⟨rfl, by first | decide | omega | (dsimp only; omega), b, fun e => absurd rfl e⟩)
    refine gT_loop (fun y => y.1 = 217 ∧ y.2.1 = w ∧ y.2.2.1 = x2 ∧ (0 ≤ y.2.2.2.1 ∧ y.2.2.2.1 ≤ gsl w) ∧ y.2.2.2.2 = s8) (fun y => (gsl w - y.2.2.2.1).toNat) (fun y hy => ?_) ⟨rfl, rfl, rfl, by dsimp only; omega, rfl⟩
    obtain ⟨x0, x1, x2', x3, u⟩ := y
    obtain ⟨q0, q1, q2, r3, q3⟩ := hy
    dsimp only at q0 q1 q2 r3 q3
    subst q0 q1 q2 q3
    show gT (sb_171_55 217 x1 x2' x3 u) _
    unfold sb_171_55
    refine gT_v1 (A := fun v z => v = gsl x1 ∧ z = u) ⟨_, rfl, rfl, hsr, rfl⟩ (fun v11 s10 hA => ?_)
    obtain ⟨rfl, rfl⟩ := hA
    refine gT_ite (fun h6 => ?_) (fun _ => gT_map ?_)
    · have e4 := g32_eq (v := gI s10 217 11 + x3) (by omega) (by omega)
      rw [e4]
      refine gT_v1 (A := fun _ z => z = s10) (k_168 b.1 (by omega)) (fun v13 s12 e => ?_)
      subst e
      refine gT_v1 (A := fun _ z => z = s12) (gT_chk (by omega) (by omega) (gT_ret ⟨rfl, rfl⟩)) (fun v15 s14 e => ?_)
      subst e
      have e5 := g32_eq (v := x3 + 1) (by omega) (by omega)
      exact gT_ite (fun _ => gT_ret ⟨⟨rfl, rfl, rfl, by dsimp only; omega, rfl⟩, by dsimp only; omega⟩) (fun _ => gT_map (gT_ret ⟨rfl, by first | decide | omega | (dsimp only; omega), b, fun e => absurd rfl e⟩))
    · extract_lets s16
      have q1 : gI s16 217 11 = x2' := rd_same (show s16 = gw s10 217 11 x2' from rfl)
      have q2 : gI s16 217 12 = gI s10 217 12 := rd_k (a := 217) (k := 12) (show s16 = gw s10 217 11 x2' from rfl) (by decide)
      have c3 := b.2.2.1
      refine gT_ret ⟨rfl, by first | decide | omega | (dsimp only; omega), ⟨J_wf b.1 t12 rfl (by decide) (by decide) (fun q hq => by cases hq; dsimp only; omega), Fm_w b.2.1 (Or.inl rfl), ?_, ?_, ?_⟩, fun _ => ?_⟩
      · show _ ≤ gI s16 217 11
        omega
      · show gI s16 217 11 ≤ _ ∨ gI s16 217 11 ≤ _
        omega
      · show gI s16 217 12 = -1 → _
        rw [q2]
        exact b.2.2.2.2
      · show _ ≤ gI s16 217 11 ∧ gI s16 217 11 ≤ _
        omega
  refine gT_loop (fun y => y.1 = 217 ∧ y.2.1 = w ∧ (gI s1 217 11 ≤ y.2.2.1 ∧ (y.2.2.1 ≤ gI s1 217 11 ∨ y.2.2.1 ≤ gI s1 217 10)) ∧ y.2.2.2 = s1) (fun y => (400 - y.2.2.1).toNat) (fun y hy => ?_) ⟨rfl, rfl, by dsimp only; omega, rfl⟩
  obtain ⟨x0, x1, x2, u⟩ := y
  obtain ⟨q0, q1, q2, q3⟩ := hy
  dsimp only at q0 q1 q2 q3
  subst q0 q1 q3
  show gT (sb_171_9 217 x1 x2 u) _
  unfold sb_171_9
  refine gT_ite (fun hx => ?_) (fun _ => gT_map (hcont _ q2.1 q2.2))
  refine gT_v1 (A := fun _ z => z = u) (k_168 b.1 (by omega)) (fun v4 s3 e => ?_)
  subst e
  refine gT_v1 (A := fun _ z => z = s3) q_150 (fun v6 s5 e => ?_)
  subst e
  have e5 := g32_eq (v := x2 + 1) (by omega) (by omega)
  exact gT_ite (fun _ => gT_map (hcont _ q2.1 q2.2)) (fun _ => gT_ret ⟨⟨rfl, rfl, by dsimp only; omega, rfl⟩, by dsimp only; omega⟩)
theorem k_172 (h : J p s) (hv : 0 ≤ v) : gT (f_172 217 v s) (fun r => r.1 = 0 ∧ Bm p s r.2.2.2 ∧ gI r.2.2.2 217 12 ≠ -1) := by
  unfold f_172
  refine gT_ite (fun h0 => ?_) (fun h0 => gT_ret ⟨rfl, Bm_r h, h0⟩)
  extract_lets s1
  have e1 : gI s1 217 12 = v := rd_same (show s1 = gw s 217 12 v from rfl)
  have e2 : gI s1 217 11 = gI s 217 11 := rd_k (a := 217) (k := 11) (show s1 = gw s 217 12 v from rfl) (by decide)
  refine gT_ret ⟨rfl, ⟨J_wf h t12 rfl (by decide) (by decide) (fun q hq => by cases hq), Fm_w (Fm_r s) (Or.inr rfl), ?_, ?_, fun _ => h0⟩, ?_⟩
  · show _ ≤ gI s1 217 11
    omega
  · show gI s1 217 11 ≤ _ ∨ _
    omega
  · show gI s1 217 12 ≠ -1
    omega
theorem k_173 (h : J p s) : gT (f_173 217 s) (fun r => r.1 = 1 ∧ (r.2.1 = gI r.2.2.2 217 11 ∧ 0 ≤ r.2.1 ∧ r.2.1 ≤ 406) ∧ Bm p s r.2.2.2) := by
  unfold f_173
  refine gT_v0 (A := fun u => Bm p s u) (k_169 h) (fun s1 b => ?_)
  have r1 := J_f (i := 11) b.1 t12 rfl (by decide) rfl
  exact gT_ret ⟨rfl, ⟨rfl, r1⟩, b⟩
theorem k_174 {lo hi : Int} (h : J p s) : gT (f_174 217 lo hi s) (fun r => r.1 = 1 ∧ Bm p s r.2.2.2 ∧ (gI r.2.2.2 217 12 = -1 → lo ≤ r.2.1 ∧ r.2.1 ≤ hi)) := by
  unfold f_174
  refine gT_ite (fun h0 => ?_) (fun h0 => gT_ret ⟨rfl, Bm_r h, fun e => absurd e h0⟩)
  refine gT_v1 (A := fun v u => (v = gI u 217 11 ∧ 0 ≤ v ∧ v ≤ 406) ∧ Bm p s u) (k_173 h) (fun v2 s1 h1 => ?_)
  obtain ⟨r2, b1⟩ := h1
  have hend : ∀ (x4 : Int) (u : gS), Bm p s u → gT (fb_174_89 217 lo hi v2 x4 u) (fun r => r.1 = 1 ∧ Bm p s r.2.2.2 ∧ (gI r.2.2.2 217 12 = -1 → lo ≤ r.2.1 ∧ r.2.1 ≤ hi)) := by
    intro x4 u b
    have hw : gT (fb_174_119 217 v2 x4 u) (fun r => r.1 = 1 ∧ Bm p s r.2.2.2 ∧ (gI r.2.2.2 217 12 = -1 → lo ≤ r.2.1 ∧ r.2.1 ≤ hi)) := by
      unfold fb_174_119
      refine gT_v0 (A := fun z => Bm p u z ∧ gI z 217 12 ≠ -1) (k_172 b.1 r2.2.1) (fun s8 h8 => ?_)
      exact gT_ret ⟨rfl, Bm_t b h8.1, fun e => absurd e h8.2⟩
    unfold fb_174_89
    exact gT_ite (fun _ => hw) (fun _ => gT_ite (fun _ => hw) (fun _ => gT_ite (fun _ => hw) (fun _ => gT_ite (fun _ => hw) (fun _ => gT_ret ⟨rfl, b, fun _ => by dsimp only; omega⟩))))
  refine gT_loop (fun y => y.1 = 217 ∧ y.2.1 = lo ∧ y.2.2.1 = hi ∧ y.2.2.2.1 = v2 ∧ Bm p s y.2.2.2.2.2) (fun y => (400 - gI y.2.2.2.2.2 217 11).toNat) (fun y hy => ?_) ⟨rfl, rfl, rfl, rfl, b1⟩
  obtain ⟨x0, x1, x2, x3, x4, u⟩ := y
  obtain ⟨q0, q1, q2, q3, b⟩ := hy
  dsimp only at q0 q1 q2 q3 b
  subst q0 q1 q2 q3
  have r1 := J_f (i := 11) b.1 t12 rfl (by decide) rfl
  have r10 := J_f (i := 10) b.1 t12 rfl (by decide) rfl
  show gT (sb_174_18 217 x1 x2 x3 x4 u) _
  unfold sb_174_18
  refine gT_ite (fun hx => ?_) (fun _ => gT_map (hend _ _ b))
  refine gT_v1 (A := fun _ z => z = u) (k_168 b.1 (by omega)) (fun v4 s3 e => ?_)
  subst e
  refine gT_v1 (A := fun _ z => z = s3) q_150 (fun v6 s5 e => ?_)
  subst e
  refine gT_ite (fun _ => gT_map (hend _ _ b)) (fun _ => gT_ite (fun _ => gT_map (hend _ _ b)) (fun _ => ?_))
  refine gT_v1 (A := fun _ z => z = s5) (k_168 b.1 (by omega)) (fun v11 s10 e => ?_)
  subst e
  extract_lets v12 s13
  have q := Bm_at b hx
  refine gT_ret ⟨⟨rfl, rfl, rfl, rfl, q.1⟩, ?_⟩
  show (400 - gI (gw s10 217 11 (g32 (gI s10 217 11 + 1))) 217 11).toNat < (400 - gI s10 217 11).toNat
  rw [q.2]
  omega
theorem k_175 {lo hi : Int} (h : J p s) (hw : 1 ≤ gsl w) : gT (f_175 217 w lo hi s) (fun r => r.1 = 1 ∧ Bm p s r.2.2.2 ∧ (gI r.2.2.2 217 12 = -1 → lo ≤ r.2.1 ∧ r.2.1 ≤ hi)) := by
  have hend : ∀ u, Bm p s u → gT (fb_175_24 217 lo hi u) (fun r => r.1 = 1 ∧ Bm p s r.2.2.2 ∧ (gI r.2.2.2 217 12 = -1 → lo ≤ r.2.1 ∧ r.2.1 ≤ hi)) := by
    intro u b
    unfold fb_175_24
    refine gT_v1 (A := fun v z => Bm p u z ∧ (gI z 217 12 = -1 → lo ≤ v ∧ v ≤ hi)) (k_174 b.1) (fun v7 s6 h6 => ?_)
    exact gT_ret ⟨rfl, Bm_t b h6.1, h6.2⟩
  unfold f_175
  refine gT_ite (fun h0 => ?_) (fun h0 => hend _ (Bm_r h))
  refine gT_v1 (A := fun v z => (0 ≤ v ∧ v ≤ 1) ∧ Bm p s z ∧ (v ≠ 0 → gI s 217 11 + 1 ≤ gI z 217 11 ∧ gI z 217 11 ≤ gI s 217 10)) (k_171 h hw) (fun v2 s1 h1 => ?_)
  refine gT_ite (fun _ => ?_) (fun _ => hend _ h1.2.1)
  have r1 := J_f (i := 11) h1.2.1.1 t12 rfl (by decide) rfl
  refine gT_v0 (A := fun z => Bm p s1 z ∧ gI z 217 12 ≠ -1) (k_172 h1.2.1.1 r1.1) (fun s4 h4 => hend _ (Bm_t h1.2.1 h4.1))
theorem k_176 (h : J p s) (hw : 1 ≤ gsl w) : gT (f_176 217 w s) (fun r => r.1 = 1 ∧ Bm p s r.2.2.2) := by
  have hend : ∀ u, Bm p s u → gT (fb_176_24 217 u) (fun r => r.1 = 1 ∧ Bm p s r.2.2.2) := by
    intro u b
    unfold fb_176_24
    refine gT_ite (fun _ => ?_) (fun _ => gT_ret ⟨rfl, b⟩)
    refine gT_v1 (A := fun v z => (v = gI z 217 11 ∧ 0 ≤ v ∧ v ≤ 406) ∧ Bm p u z) (k_173 b.1) (fun v7 s6 h6 => ?_)
    obtain ⟨r2, b6⟩ := h6
    have hfin : ∀ (x3 x4 : Int) (z : gS), Bm p s z → gT (fb_176_145 217 v7 x3 x4 z) (fun r => r.1 = 1 ∧ Bm p s r.2.2.2) := by
      intro x3 x4 z bz
      have hw : gT (fb_176_154 217 v7 x3 z) (fun r => r.1 = 1 ∧ Bm p s r.2.2.2) := by
        unfold fb_176_154
        refine gT_v0 (A := fun y => Bm p z y ∧ gI y 217 12 ≠ -1) (k_172 bz.1 r2.2.1) (fun s8 h8 => ?_)
        exact gT_ret ⟨rfl, Bm_t bz h8.1⟩
      unfold fb_176_145
      exact gT_ite (fun _ => hw) (fun _ => gT_ite (fun _ => hw) (fun _ => gT_ret ⟨rfl, bz⟩))
    refine gT_loop (fun y => y.1 = 217 ∧ y.2.1 = v7 ∧ Bm p s y.2.2.2.2) (fun y => (400 - gI y.2.2.2.2 217 11).toNat) (fun y hy => ?_) ⟨rfl, rfl, Bm_t b b6⟩
    obtain ⟨x0, x2, x3, x4, z⟩ := y
    obtain ⟨q0, q1, bz⟩ := hy
    dsimp only at q0 q1 bz
    subst q0 q1
    have r1 := J_f (i := 11) bz.1 t12 rfl (by decide) rfl
    have r10 := J_f (i := 10) bz.1 t12 rfl (by decide) rfl
    show gT (sb_176_44 217 x2 x3 x4 z) _
    unfold sb_176_44
    refine gT_ite (fun hx => ?_) (fun _ => gT_map (hfin _ _ _ bz))
    refine gT_v1 (A := fun _ y => y = z) (k_168 bz.1 (by omega)) (fun v9 s8 e => ?_)
    subst e
    refine gT_v1 (A := fun _ y => y = s8) q_150 (fun v11 s10 e => ?_)
    subst e
    refine gT_ite (fun _ => gT_map (hfin _ _ _ bz)) (fun _ => ?_)
    refine gT_v1 (A := fun _ y => y = s10) (k_168 bz.1 (by omega)) (fun v16 s15 e => ?_)
    subst e
    have q := Bm_at bz hx
    have h112 : ∀ x5 w0 : Int, gT (fb_176_112 217 x2 x3 x5 w0 s15) (Sum.elim (fun y => (y.1 = 217 ∧ y.2.1 = x2 ∧ Bm p s y.2.2.2.2) ∧ (400 - gI y.2.2.2.2 217 11).toNat < (400 - gI s15 217 11).toNat) (fun r => r.1 = 1 ∧ Bm p s r.2.2.2)) := by
      intro x5 w0
      have h130 : ∀ a b : Int, gT (fb_176_130 217 x2 a b x3 s15) (Sum.elim (fun y => (y.1 = 217 ∧ y.2.1 = x2 ∧ Bm p s y.2.2.2.2) ∧ (400 - gI y.2.2.2.2 217 11).toNat < (400 - gI s15 217 11).toNat) (fun r => r.1 = 1 ∧ Bm p s r.2.2.2)) := by
        intro a b
        unfold fb_176_130
        refine gT_ret ⟨⟨rfl, rfl, q.1⟩, ?_⟩
        show (400 - gI (gw s15 217 11 (g32 (gI s15 217 11 + 1))) 217 11).toNat < (400 - gI s15 217 11).toNat
        rw [q.2]
        omega
      unfold fb_176_112
      exact gT_ite (fun _ => h130 _ _) (fun _ => h130 _ _)
    refine gT_ite (fun _ => h112 _ _) (fun _ => gT_ite (fun _ => ?_) (fun _ => h112 _ _))
    refine gT_v1 (A := fun _ y => y = s15) d153_pure (fun v19 s18 e => ?_)
    subst e
    exact gT_ite (fun _ => h112 _ _) (fun _ => h112 _ _)
  unfold f_176
  refine gT_ite (fun h0 => ?_) (fun h0 => hend _ (Bm_r h))
  refine gT_v1 (A := fun v z => (0 ≤ v ∧ v ≤ 1) ∧ Bm p s z ∧ (v ≠ 0 → gI s 217 11 + 1 ≤ gI z 217 11 ∧ gI z 217 11 ≤ gI s 217 10)) (k_171 h hw) (fun v2 s1 h1 => ?_)
  refine gT_ite (fun _ => ?_) (fun _ => hend _ h1.2.1)
  have r1 := J_f (i := 11) h1.2.1.1 t12 rfl (by decide) rfl
  refine gT_v0 (A := fun z => Bm p s1 z ∧ gI z 217 12 ≠ -1) (k_172 h1.2.1.1 r1.1) (fun s4 h4 => hend _ (Bm_t h1.2.1 h4.1))
end Rm

end
section
theorem gsl_pos : ∀ w, w < 70 → 43 ≤ w → 1 ≤ gsl w := by decide +kernel
section Ln
variable {p : gP} {x : Int} {s : gS}
theorem m_rd (h : J p s) {k : Nat} {a b : Int} (hf : mrn k = some (a, b)) : a ≤ gI s 218 k ∧ b ≥ gI s 218 k := by
  have := J_m h h t12 hf
  rw [r_m h t12] at this
  exact this
theorem c_177 (h : J p s) (hx : 0 ≤ x) : gT (f_177 217 x s) (fun r => r.1 = 0 ∧ J p r.2.2.2) := by
  have r3 := m_rd (k := 3) h rfl
  have hgo : ∀ u, Bm p s u → (gI u 217 12 = -1 → gI s 218 3 ≤ 7) → gT (fb_177_16 217 u) (fun r => r.1 = 0 ∧ J p r.2.2.2) := by
    intro u b hq
    unfold fb_177_16
    refine gT_v1 (A := fun v z => Bm p u z ∧ (gI z 217 12 = -1 → 1 ≤ v ∧ v ≤ 30)) (k_175 b.1 (gsl_pos 43 (by decide) (by decide))) (fun v4 s3 h3 => ?_)
    refine gT_v1 (A := fun v z => Bm p s3 z ∧ (gI z 217 12 = -1 → 0 ≤ v ∧ v ≤ 99)) (k_175 h3.1.1 (gsl_pos 44 (by decide) (by decide))) (fun v6 s5 h5 => ?_)
    refine gT_v1 (A := fun v z => Bm p s5 z ∧ (gI z 217 12 = -1 → 0 ≤ v ∧ v ≤ 50)) (k_175 h5.1.1 (gsl_pos 45 (by decide) (by decide))) (fun v8 s7 h7 => ?_)
    have bu := Bm_t (Bm_t h3.1 h5.1) h7.1
    have b7 := Bm_t b bu
    refine gT_ite (fun h0 => ?_) (fun _ => gT_ret ⟨rfl, b7.1⟩)
    have e3 : gI s7 218 3 = gI s 218 3 := b7.2.1.2 218 3 (by decide)
    have q3 := hq (bu.2.2.2.2 h0)
    have m7 := r_m b7.1 t12
    rw [m7, e3]
    have g1 := g32_eq (v := 3 * gI s 218 3) (by omega) (by omega)
    have g2 := g32_eq (v := 16 + 3 * gI s 218 3) (by omega) (by omega)
    rw [g1, g2]
    extract_lets v9 s10 s11 s12 s13
    have hv9 : v9 = 16 + 3 * gI s 218 3 := rfl
    have g3 := g32_eq (v := v9 + 0) (by omega) (by omega)
    have g4 := g32_eq (v := v9 + 1) (by omega) (by omega)
    have g5 := g32_eq (v := v9 + 2) (by omega) (by omega)
    have j10 : J p s10 := by
      show J p (gw s7 218 _ _)
      rw [← m7]
      exact J_wmf b7.1 b7.1 t12 (by omega)
    have m10 := r_m j10 t12
    have j11 : J p s11 := J_wmf j10 j10 t12 (by omega)
    have m11 := r_m j11 t12
    have h50 := h7.2 h0
    have j12 : J p s12 := J_wm j11 j11 t12 (fun q hq => by
      rw [show (g32 (v9 + 2)).toNat = 16 + 3 * (gI s 218 3).toNat + 2 by omega, mrn_s (by omega)] at hq
      cases hq
      exact h50)
    have m12 := r_m j12 t12
    have e10 : gI s10 218 3 = gI s7 218 3 := rd_k (a := 218) (k := 3) (show s10 = gw s7 218 (g32 (v9 + 0)).toNat v4 from rfl) (by omega)
    have e11 : gI s11 218 3 = gI s10 218 3 := rd_k (a := 218) (k := 3) (show s11 = gw s10 (gR s10 217 1) (g32 (v9 + 1)).toNat v6 from rfl) (by omega)
    have e12 : gI s12 218 3 = gI s11 218 3 := rd_k (a := 218) (k := 3) (show s12 = gw s11 (gR s11 217 1) (g32 (v9 + 2)).toNat v8 from rfl) (by omega)
    have j13 : J p s13 := J_wm j12 j12 t12 (fun q hq => by
      cases hq
      dsimp only
      rw [m12]
      have g6 := g32_eq (v := gI s12 218 3 + 1) (by omega) (by omega)
      omega)
    exact gT_chk (by omega) (by omega) (gT_chk (by omega) (by omega) (gT_chk (by omega) (by omega) (gT_ret ⟨rfl, j13⟩)))
  unfold f_177
  rw [r_m h t12]
  refine gT_ite (fun h8 => ?_) (fun h8 => hgo _ (Bm_r h) (fun _ => by omega))
  refine gT_v0 (A := fun z => Bm p s z ∧ gI z 217 12 ≠ -1) (k_172 h hx) (fun s1 h1 => hgo _ h1.1 (fun e => absurd e h1.2))
theorem c_178 (h : J p s) (hx : 0 ≤ x) : gT (f_178 217 x s) (fun r => r.1 = 0 ∧ J p r.2.2.2) := by
  have r3 := m_rd (k := 4) h rfl
  have hgo : ∀ u, Bm p s u → (gI u 217 12 = -1 → gI s 218 4 ≤ 5) → gT (fb_178_16 217 u) (fun r => r.1 = 0 ∧ J p r.2.2.2) := by
    intro u b hq
    unfold fb_178_16
    refine gT_v1 (A := fun v z => Bm p u z ∧ (gI z 217 12 = -1 → 0 ≤ v ∧ v ≤ 99)) (k_175 b.1 (gsl_pos 46 (by decide) (by decide))) (fun v4 s3 h3 => ?_)
    refine gT_v1 (A := fun v z => Bm p s3 z ∧ (gI z 217 12 = -1 → 0 ≤ v ∧ v ≤ 9)) (k_175 h3.1.1 (gsl_pos 47 (by decide) (by decide))) (fun v6 s5 h5 => ?_)
    refine gT_v1 (A := fun v z => Bm p s5 z) (k_176 h5.1.1 (gsl_pos 48 (by decide) (by decide))) (fun v8 s7 h7 => ?_)
    have bu := Bm_t (Bm_t h3.1 h5.1) h7
    have b7 := Bm_t b bu
    refine gT_ite (fun h0 => ?_) (fun _ => gT_ret ⟨rfl, b7.1⟩)
    have e3 : gI s7 218 4 = gI s 218 4 := b7.2.1.2 218 4 (by decide)
    have q3 := hq (bu.2.2.2.2 h0)
    have q6 := h5.2 (h7.2.2.2.2 h0)
    have q4 := h3.2 (h5.1.2.2.2.2 (h7.2.2.2.2 h0))
    have m7 := r_m b7.1 t12
    rw [m7]
    extract_lets v9
    have hv9 : v9 = gI s7 218 4 := rfl
    clear_value v9
    have hr9 : 0 ≤ v9 ∧ v9 ≤ 5 := by omega
    have P : ∀ {w v : Int} {z : gS} (hw : 0 ≤ w ∧ w ≤ 5) (hv : (w = 0 → 0 ≤ v ∧ v ≤ 99) ∧ (w = 1 → 0 ≤ v ∧ v ≤ 9) ∧ (w = 3 → 0 ≤ v ∧ v ≤ 8)), J p z ∧ gI z 218 4 = gI s 218 4 → gT (f_157 217 v9 w v z) (fun r => r.1 = 0 ∧ (J p r.2.2.2 ∧ gI r.2.2.2 218 4 = gI s 218 4)) := by
      intro w v z hw hv hz
      refine gT_mono (c_157 hz.1 t12 hr9 hw hv) (fun r hr => ⟨hr.1, hr.2.1, ?_⟩)
      rw [rd_k (a := 218) (k := 4) hr.2.2 (by omega)]
      exact hz.2
    refine gT_v0 (A := fun z => J p z ∧ gI z 218 4 = gI s 218 4) (P (by decide) ⟨fun _ => q4, fun e => absurd e (by first | decide | omega | (dsimp only; omega)), fun e => absurd e (by first | decide | omega | (dsimp only; omega))⟩ ⟨b7.1, e3⟩) (fun s10 h10 => ?_)
    refine gT_v0 (A := fun z => J p z ∧ gI z 218 4 = gI s 218 4) (P (by decide) ⟨fun e => absurd e (by first | decide | omega | (dsimp only; omega)), fun _ => q6, fun e => absurd e (by first | decide | omega | (dsimp only; omega))⟩ h10) (fun s12 h12 => ?_)
    refine gT_v0 (A := fun z => J p z ∧ gI z 218 4 = gI s 218 4) (P (by decide) ⟨fun e => absurd e (by first | decide | omega | (dsimp only; omega)), fun e => absurd e (by first | decide | omega | (dsimp only; omega)), fun e => absurd e (by first | decide | omega | (dsimp only; omega))⟩ h12) (fun s14 h14 => ?_)
    refine gT_v0 (A := fun z => J p z ∧ gI z 218 4 = gI s 218 4) (P (by decide) ⟨fun e => absurd e (by first | decide | omega | (dsimp only; omega)), fun e => absurd e (by first | decide | omega | (dsimp only; omega)), fun _ => by first | decide | omega | (dsimp only; omega)⟩ h14) (fun s16 h16 => ?_)
    refine gT_v0 (A := fun z => J p z ∧ gI z 218 4 = gI s 218 4) (P (by decide) ⟨fun e => absurd e (by first | decide | omega | (dsimp only; omega)), fun e => absurd e (by first | decide | omega | (dsimp only; omega)), fun e => absurd e (by first | decide | omega | (dsimp only; omega))⟩ h16) (fun s18 h18 => ?_)
    refine gT_v0 (A := fun z => J p z ∧ gI z 218 4 = gI s 218 4) (P (by decide) ⟨fun e => absurd e (by first | decide | omega | (dsimp only; omega)), fun e => absurd e (by first | decide | omega | (dsimp only; omega)), fun e => absurd e (by first | decide | omega | (dsimp only; omega))⟩ h18) (fun s20 h20 => ?_)
    extract_lets s22
    have j22 : J p s22 := J_wm h20.1 h20.1 t12 (fun q hq => by
      cases hq
      dsimp only
      rw [r_m h20.1 t12, h20.2]
      have g6 := g32_eq (v := gI s 218 4 + 1) (by omega) (by omega)
      omega)
    exact gT_ret ⟨rfl, j22⟩
  unfold f_178
  rw [r_m h t12]
  refine gT_ite (fun h8 => ?_) (fun h8 => hgo _ (Bm_r h) (fun _ => by omega))
  refine gT_v0 (A := fun z => Bm p s z ∧ gI z 217 12 ≠ -1) (k_172 h hx) (fun s1 h1 => hgo _ h1.1 (fun e => absurd e h1.2))
theorem c_179 (h : J p s) (hx : 0 ≤ x) : gT (f_179 217 x s) (fun r => r.1 = 0 ∧ J p r.2.2.2) := by
  have r3 := m_rd (k := 5) h rfl
  have hgo : ∀ u, Bm p s u → (gI u 217 12 = -1 → gI s 218 5 ≤ 5) → gT (fb_179_16 217 u) (fun r => r.1 = 0 ∧ J p r.2.2.2) := by
    intro u b hq
    unfold fb_179_16
    refine gT_v1 (A := fun v z => Bm p u z ∧ (gI z 217 12 = -1 → 0 ≤ v ∧ v ≤ 99)) (k_175 b.1 (gsl_pos 44 (by decide) (by decide))) (fun v4 s3 h3 => ?_)
    refine gT_v1 (A := fun v z => Bm p s3 z) (k_176 h3.1.1 (gsl_pos 49 (by decide) (by decide))) (fun v6 s5 h5 => ?_)
    have bu := Bm_t h3.1 h5
    have b5 := Bm_t b bu
    refine gT_ite (fun h0 => ?_) (fun _ => gT_ret ⟨rfl, b5.1⟩)
    have e3 : gI s5 218 5 = gI s 218 5 := b5.2.1.2 218 5 (by decide)
    have q3 := hq (bu.2.2.2.2 h0)
    have m5 := r_m b5.1 t12
    rw [m5, e3]
    have g1 := g32_eq (v := 2 * gI s 218 5) (by omega) (by omega)
    have g2 := g32_eq (v := 76 + 2 * gI s 218 5) (by omega) (by omega)
    rw [g1, g2]
    refine gT_chk (by omega) (by omega) ?_
    extract_lets s7 s8 s9
    have j7 : J p s7 := by
      have hz := J_wmf (v := v4) (k := (76 + 2 * gI s 218 5).toNat) b5.1 b5.1 t12 (by omega)
      rw [m5] at hz
      exact hz
    have m7 := r_m j7 t12
    have e7 : gI s7 218 5 = gI s5 218 5 := rd_k (a := 218) (k := 5) (show s7 = gw s5 218 (76 + 2 * gI s 218 5).toNat v4 from rfl) (by omega)
    have g3 := g32_eq (v := 76 + 2 * gI s 218 5 + 1) (by omega) (by omega)
    have hi : g32 (g32 (76 + g32 (2 * gI s7 (gR s7 217 1) 5)) + 1) = 76 + 2 * gI s 218 5 + 1 := by rw [m7, e7, e3, g1, g2, g3]
    have j8 : J p s8 := J_wmf j7 j7 t12 (by rw [hi]; omega)
    have m8 := r_m j8 t12
    have e8 : gI s8 218 5 = gI s7 218 5 := rd_k (a := 218) (k := 5) (show s8 = gw s7 (gR s7 217 1) (g32 (g32 (76 + g32 (2 * gI s7 (gR s7 217 1) 5)) + 1)).toNat v6 from rfl) (by rw [hi]; omega)
    have j9 : J p s9 := J_wm j8 j8 t12 (fun q hq => by
      cases hq
      dsimp only
      rw [m8]
      have g6 := g32_eq (v := gI s8 218 5 + 1) (by omega) (by omega)
      omega)
    exact gT_chk (by rw [hi]; omega) (by rw [hi]; omega) (gT_ret ⟨rfl, j9⟩)
  unfold f_179
  rw [r_m h t12]
  refine gT_ite (fun h8 => ?_) (fun h8 => hgo _ (Bm_r h) (fun _ => by omega))
  refine gT_v0 (A := fun z => Bm p s z ∧ gI z 217 12 ≠ -1) (k_172 h hx) (fun s1 h1 => hgo _ h1.1 (fun e => absurd e h1.2))
theorem c_180 (h : J p s) (hx : 0 ≤ x) : gT (f_180 217 x s) (fun r => r.1 = 0 ∧ J p r.2.2.2) := by
  have r3 := m_rd (k := 6) h rfl
  have hgo : ∀ u, Bm p s u → (gI u 217 12 = -1 → gI s 218 6 ≤ 5) → gT (fb_180_17 217 u) (fun r => r.1 = 0 ∧ J p r.2.2.2) := by
    intro u b hq
    unfold fb_180_17
    refine gT_v1 (A := fun v z => Bm p u z ∧ (gI z 217 12 = -1 → 0 ≤ v ∧ v ≤ 999)) (k_174 b.1) (fun v4 s5 h5 => ?_)
    have bu := h5.1
    have b5 := Bm_t b bu
    refine gT_ite (fun h0 => ?_) (fun _ => gT_ret ⟨rfl, b5.1⟩)
    have e3 : gI s5 218 6 = gI s 218 6 := b5.2.1.2 218 6 (by decide)
    have q3 := hq (bu.2.2.2.2 h0)
    have m5 := r_m b5.1 t12
    rw [m5, e3]
    have g1 := g32_eq (v := 2 * gI s 218 6) (by omega) (by omega)
    have g2 := g32_eq (v := 88 + 2 * gI s 218 6) (by omega) (by omega)
    have g20 := g32_eq (v := 88 + 2 * gI s 218 6 + 0) (by omega) (by omega)
    rw [g1, g2, g20]
    refine gT_chk (by omega) (by omega) ?_
    extract_lets s7 s8 s9
    have j7 : J p s7 := by
      have hz := J_wmf (v := v4) (k := (88 + 2 * gI s 218 6 + 0).toNat) b5.1 b5.1 t12 (by omega)
      rw [m5] at hz
      exact hz
    have m7 := r_m j7 t12
    have e7 : gI s7 218 6 = gI s5 218 6 := rd_k (a := 218) (k := 6) (show s7 = gw s5 218 (88 + 2 * gI s 218 6 + 0).toNat v4 from rfl) (by omega)
    have g3 := g32_eq (v := 88 + 2 * gI s 218 6 + 1) (by omega) (by omega)
    have hi : g32 (g32 (88 + g32 (2 * gI s7 (gR s7 217 1) 6)) + 1) = 88 + 2 * gI s 218 6 + 1 := by rw [m7, e7, e3, g1, g2, g3]
    have j8 : J p s8 := J_wmf j7 j7 t12 (by rw [hi]; omega)
    have m8 := r_m j8 t12
    have e8 : gI s8 218 6 = gI s7 218 6 := rd_k (a := 218) (k := 6) (show s8 = gw s7 (gR s7 217 1) (g32 (g32 (88 + g32 (2 * gI s7 (gR s7 217 1) 6)) + 1)).toNat 0 from rfl) (by rw [hi]; omega)
    have j9 : J p s9 := J_wm j8 j8 t12 (fun q hq => by
      cases hq
      dsimp only
      rw [m8]
      have g6 := g32_eq (v := gI s8 218 6 + 1) (by omega) (by omega)
      omega)
    exact gT_chk (by rw [hi]; omega) (by rw [hi]; omega) (gT_ret ⟨rfl, j9⟩)
  unfold f_180
  rw [r_m h t12]
  refine gT_ite (fun h8 => ?_) (fun h8 => hgo _ (Bm_r h) (fun _ => by omega))
  refine gT_v0 (A := fun z => Bm p s z ∧ gI z 217 12 ≠ -1) (k_172 h hx) (fun s1 h1 => hgo _ h1.1 (fun e => absurd e h1.2))
theorem c_181 {w hi : Int} (h : J p s) (hw : 0 ≤ w ∧ w < 740) (hm : ∀ q, mrn w.toNat = some q → q.1 ≤ 0 ∧ hi ≤ q.2) : gT (f_181 217 w hi s) (fun r => r.1 = 0 ∧ J p r.2.2.2) := by
  unfold f_181
  refine gT_v1 (A := fun v z => Bm p s z ∧ (gI z 217 12 = -1 → 0 ≤ v ∧ v ≤ hi)) (k_174 h) (fun v2 s1 h1 => ?_)
  refine gT_ite (fun h0 => ?_) (fun _ => gT_ret ⟨rfl, h1.1.1⟩)
  refine gT_chk hw.1 hw.2 ?_
  exact gT_ret ⟨rfl, J_wm h1.1.1 h1.1.1 t12 (fun q hq => by have := hm q hq; have := h1.2 h0; omega)⟩
theorem c_182 (h : J p s) : gT (f_182 217 s) (fun r => r.1 = 0 ∧ J p r.2.2.2) := by
  unfold f_182
  refine gT_v1 (A := fun v u => (v = gI u 217 11 ∧ 0 ≤ v ∧ v ≤ 406) ∧ Bm p s u) (k_173 h) (fun v2 s1 h1 => ?_)
  have hv := h1.1.2.1
  have j1 := h1.2.1
  clear h1
  refine gT_v1 (A := fun v z => (0 ≤ v ∧ v ≤ 1) ∧ Bm p s1 z ∧ (v ≠ 0 → gI s1 217 11 + 1 ≤ gI z 217 11 ∧ gI z 217 11 ≤ gI s1 217 10)) (k_171 j1 (gsl_pos 50 (by decide) (by decide))) (fun v4 u0 h3 => ?_)
  have k0 := h3.2.1.1
  clear h3
  refine gT_ite (fun _ => ?_) (fun _ => gT_v0 (A := fun z => J p z) (c_177 k0 hv) (fun z hz => gT_ret ⟨rfl, hz⟩))
  refine gT_v1 (A := fun v z => (0 ≤ v ∧ v ≤ 1) ∧ Bm p u0 z ∧ (v ≠ 0 → gI u0 217 11 + 1 ≤ gI z 217 11 ∧ gI z 217 11 ≤ gI u0 217 10)) (k_171 k0 (gsl_pos 51 (by decide) (by decide))) (fun v4 u1 h3 => ?_)
  have k1 := h3.2.1.1
  clear h3
  refine gT_ite (fun _ => ?_) (fun _ => gT_v0 (A := fun z => J p z) (c_178 k1 hv) (fun z hz => gT_ret ⟨rfl, hz⟩))
  refine gT_v1 (A := fun v z => (0 ≤ v ∧ v ≤ 1) ∧ Bm p u1 z ∧ (v ≠ 0 → gI u1 217 11 + 1 ≤ gI z 217 11 ∧ gI z 217 11 ≤ gI u1 217 10)) (k_171 k1 (gsl_pos 52 (by decide) (by decide))) (fun v4 u2 h3 => ?_)
  have k2 := h3.2.1.1
  clear h3
  refine gT_ite (fun _ => ?_) (fun _ => gT_v0 (A := fun z => J p z) (c_179 k2 hv) (fun z hz => gT_ret ⟨rfl, hz⟩))
  refine gT_v1 (A := fun v z => (0 ≤ v ∧ v ≤ 1) ∧ Bm p u2 z ∧ (v ≠ 0 → gI u2 217 11 + 1 ≤ gI z 217 11 ∧ gI z 217 11 ≤ gI u2 217 10)) (k_171 k2 (gsl_pos 53 (by decide) (by decide))) (fun v4 u3 h3 => ?_)
  have k3 := h3.2.1.1
  clear h3
  refine gT_ite (fun _ => ?_) (fun _ => gT_v0 (A := fun z => J p z) (c_180 k3 hv) (fun z hz => gT_ret ⟨rfl, hz⟩))
  refine gT_v1 (A := fun v z => (0 ≤ v ∧ v ≤ 1) ∧ Bm p u3 z ∧ (v ≠ 0 → gI u3 217 11 + 1 ≤ gI z 217 11 ∧ gI z 217 11 ≤ gI u3 217 10)) (k_171 k3 (gsl_pos 54 (by decide) (by decide))) (fun v4 u4 h3 => ?_)
  have k4 := h3.2.1.1
  clear h3
  refine gT_ite (fun _ => ?_) (fun _ => gT_v0 (A := fun z => J p z) (c_181 k4 (by decide) (fun q hq => by cases hq)) (fun z hz => gT_ret ⟨rfl, hz⟩))
  refine gT_v1 (A := fun v z => (0 ≤ v ∧ v ≤ 1) ∧ Bm p u4 z ∧ (v ≠ 0 → gI u4 217 11 + 1 ≤ gI z 217 11 ∧ gI z 217 11 ≤ gI u4 217 10)) (k_171 k4 (gsl_pos 55 (by decide) (by decide))) (fun v4 u5 h3 => ?_)
  have k5 := h3.2.1.1
  clear h3
  refine gT_ite (fun _ => ?_) (fun _ => gT_v0 (A := fun z => J p z) (c_181 k5 (by decide) (fun q hq => by cases hq)) (fun z hz => gT_ret ⟨rfl, hz⟩))
  refine gT_v1 (A := fun v z => (0 ≤ v ∧ v ≤ 1) ∧ Bm p u5 z ∧ (v ≠ 0 → gI u5 217 11 + 1 ≤ gI z 217 11 ∧ gI z 217 11 ≤ gI u5 217 10)) (k_171 k5 (gsl_pos 56 (by decide) (by decide))) (fun v4 u6 h3 => ?_)
  have k6 := h3.2.1.1
  clear h3
  refine gT_ite (fun _ => ?_) (fun _ => gT_v0 (A := fun z => J p z) (c_181 k6 (by decide) (fun q hq => by cases hq)) (fun z hz => gT_ret ⟨rfl, hz⟩))
  refine gT_v1 (A := fun v z => (0 ≤ v ∧ v ≤ 1) ∧ Bm p u6 z ∧ (v ≠ 0 → gI u6 217 11 + 1 ≤ gI z 217 11 ∧ gI z 217 11 ≤ gI u6 217 10)) (k_171 k6 (gsl_pos 57 (by decide) (by decide))) (fun v4 u7 h3 => ?_)
  have k7 := h3.2.1.1
  clear h3
  refine gT_ite (fun _ => ?_) (fun _ => gT_v0 (A := fun z => J p z) (c_181 k7 (by decide) (fun q hq => by cases hq; decide)) (fun z hz => gT_ret ⟨rfl, hz⟩))
  have r1 := J_f (i := 11) k7 t12 rfl (by decide) rfl
  exact gT_v0 (A := fun z => Bm p u7 z ∧ gI z 217 12 ≠ -1) (k_172 k7 r1.1) (fun z hz => gT_ret ⟨rfl, hz.1.1⟩)
end Ln

end
section
noncomputable def Km (p : gP) (e d b u : Int) (s : gS) : Prop := J p s ∧ gI s 217 10 = e ∧ gI s 217 13 = d ∧ b ≤ gI s 217 11 ∧ gI s 217 11 ≤ u
section Lw
variable {p : gP} {e d b b' u : Int} {s s' : gS} {v : Int} {w : Nat}
theorem Km_b (h : Km p e d b u s) (hB : Bm p s s') (hu : e ≤ u) : Km p e d b u s' := by
  have e1 := Bm_e hB.2.1
  have e2 : gI s' 217 13 = gI s 217 13 := hB.2.1.2 217 13 (by decide)
  obtain ⟨-, h1, h2, h3, h4⟩ := h
  have q1 := hB.2.2.1
  have q2 := hB.2.2.2.1
  exact ⟨hB.1, by omega, by omega, by omega, by omega⟩
theorem Km_lo (h : Km p e d b u s) (hb : b' ≤ b) : Km p e d b' u s := ⟨h.1, h.2.1, h.2.2.1, by have := h.2.2.2.1; omega, h.2.2.2.2⟩
theorem Km_of (h : J p s) : Km p (gI s 217 10) (gI s 217 13) (gI s 217 11) 406 s := ⟨h, rfl, rfl, Int.le_refl _, (J_f (i := 11) h t12 rfl (by decide) rfl).2⟩
theorem k_188 (h : J p s) : gT (f_188 217 s) (fun r => r.1 = 1 ∧ Bm p s r.2.2.2) := by
  have hend : ∀ (x : Int) (u : gS), Bm p s u → -1 ≤ x ∧ x ≤ 6 → gT (fb_188_145 217 x u) (fun r => r.1 = 1 ∧ Bm p s r.2.2.2) := by
    intro x u hb hx
    unfold fb_188_145
    have r1 := J_f (i := 11) hb.1 t12 rfl (by decide) rfl
    refine gT_ite (fun _ => ?_) (fun _ => gT_chk (by omega) (by omega) (gT_ret ⟨rfl, hb⟩))
    exact gT_v0 (A := fun z => Bm p u z ∧ gI z 217 12 ≠ -1) (k_172 hb.1 r1.1) (fun z hz => gT_ret ⟨rfl, Bm_t hb hz.1⟩)
  have hname : ∀ u : gS, Bm p s u → gT (fb_188_52 217 u) (fun r => r.1 = 1 ∧ Bm p s r.2.2.2) := by
    intro u0 b0
    unfold fb_188_52
    refine gT_v1 (A := fun v z => (0 ≤ v ∧ v ≤ 1) ∧ Bm p u0 z ∧ (v ≠ 0 → gI u0 217 11 + 1 ≤ gI z 217 11 ∧ gI z 217 11 ≤ gI u0 217 10)) (k_171 b0.1 (gsl_pos 51 (by decide) (by decide))) (fun v4 u1 h3 => ?_)
    have b1 := Bm_t b0 h3.2.1
    clear h3
    refine gT_ite (fun _ => ?_) (fun _ => hend _ _ b1 (by decide))
    refine gT_v1 (A := fun v z => (0 ≤ v ∧ v ≤ 1) ∧ Bm p u1 z ∧ (v ≠ 0 → gI u1 217 11 + 1 ≤ gI z 217 11 ∧ gI z 217 11 ≤ gI u1 217 10)) (k_171 b1.1 (gsl_pos 46 (by decide) (by decide))) (fun v4 u2 h3 => ?_)
    have b2 := Bm_t b1 h3.2.1
    clear h3
    refine gT_ite (fun _ => ?_) (fun _ => hend _ _ b2 (by decide))
    refine gT_v1 (A := fun v z => (0 ≤ v ∧ v ≤ 1) ∧ Bm p u2 z ∧ (v ≠ 0 → gI u2 217 11 + 1 ≤ gI z 217 11 ∧ gI z 217 11 ≤ gI u2 217 10)) (k_171 b2.1 (gsl_pos 47 (by decide) (by decide))) (fun v4 u3 h3 => ?_)
    have b3 := Bm_t b2 h3.2.1
    clear h3
    refine gT_ite (fun _ => ?_) (fun _ => hend _ _ b3 (by decide))
    refine gT_v1 (A := fun v z => (0 ≤ v ∧ v ≤ 1) ∧ Bm p u3 z ∧ (v ≠ 0 → gI u3 217 11 + 1 ≤ gI z 217 11 ∧ gI z 217 11 ≤ gI u3 217 10)) (k_171 b3.1 (gsl_pos 58 (by decide) (by decide))) (fun v4 u4 h3 => ?_)
    have b4 := Bm_t b3 h3.2.1
    clear h3
    refine gT_ite (fun _ => ?_) (fun _ => hend _ _ b4 (by decide))
    refine gT_v1 (A := fun v z => (0 ≤ v ∧ v ≤ 1) ∧ Bm p u4 z ∧ (v ≠ 0 → gI u4 217 11 + 1 ≤ gI z 217 11 ∧ gI z 217 11 ≤ gI u4 217 10)) (k_171 b4.1 (gsl_pos 59 (by decide) (by decide))) (fun v4 u5 h3 => ?_)
    have b5 := Bm_t b4 h3.2.1
    clear h3
    refine gT_ite (fun _ => ?_) (fun _ => hend _ _ b5 (by decide))
    refine gT_v1 (A := fun v z => (0 ≤ v ∧ v ≤ 1) ∧ Bm p u5 z ∧ (v ≠ 0 → gI u5 217 11 + 1 ≤ gI z 217 11 ∧ gI z 217 11 ≤ gI u5 217 10)) (k_171 b5.1 (gsl_pos 60 (by decide) (by decide))) (fun v4 u6 h3 => ?_)
    have b6 := Bm_t b5 h3.2.1
    clear h3
    refine gT_ite (fun _ => ?_) (fun _ => hend _ _ b6 (by decide))
    refine gT_v1 (A := fun v z => (0 ≤ v ∧ v ≤ 1) ∧ Bm p u6 z ∧ (v ≠ 0 → gI u6 217 11 + 1 ≤ gI z 217 11 ∧ gI z 217 11 ≤ gI u6 217 10)) (k_171 b6.1 (gsl_pos 61 (by decide) (by decide))) (fun v4 u7 h3 => ?_)
    have b7 := Bm_t b6 h3.2.1
    clear h3
    exact gT_ite (fun _ => hend _ _ b7 (by decide)) (fun _ => hend _ _ b7 (by decide))
  unfold f_188
  refine gT_ite (fun _ => ?_) (fun _ => gT_ret ⟨rfl, Bm_r h⟩)
  refine gT_v0 (A := fun z => Bm p s z) (k_169 h) (fun s1 b1 => ?_)
  have r1 := J_f (i := 11) b1.1 t12 rfl (by decide) rfl
  have r10 := J_f (i := 10) b1.1 t12 rfl (by decide) rfl
  refine gT_ite (fun hx => ?_) (fun _ => hname _ b1)
  refine gT_v1 (A := fun _ z => z = s1) (k_168 b1.1 (by omega)) (fun v4 s3 e => ?_)
  subst e
  refine gT_v1 (A := fun _ z => z = s3) q_150 (fun v6 s5 e => ?_)
  subst e
  refine gT_ite (fun _ => hname _ b1) (fun _ => ?_)
  refine gT_v1 (A := fun v z => Bm p s5 z ∧ (gI z 217 12 = -1 → 0 ≤ v ∧ v ≤ 999)) (k_174 b1.1) (fun v32 s31 h31 => ?_)
  exact gT_ret ⟨rfl, Bm_t b1 h31.1⟩
theorem k_189 (h : J p s) : gT (f_189 217 s) (fun r => r.1 = 1 ∧ Bm p s r.2.2.2) := by
  unfold f_189
  refine gT_v1 (A := fun _ z => Bm p s z) (k_188 h) (fun v2 s1 b1 => ?_)
  refine gT_loop (fun y => y.1 = 217 ∧ Bm p s y.2.2) (fun y => (400 - gI y.2.2 217 11).toNat) (fun y hy => ?_) ⟨rfl, b1⟩
  obtain ⟨x0, x1, u⟩ := y
  obtain ⟨q0, b⟩ := hy
  dsimp only at q0 b
  subst q0
  show gT (sb_189_5 217 x1 u) _
  unfold sb_189_5
  refine gT_ite (fun _ => ?_) (fun _ => gT_map (gT_ret ⟨rfl, b⟩))
  refine gT_v1 (A := fun v z => (0 ≤ v ∧ v ≤ 1) ∧ Bm p u z ∧ (v ≠ 0 → gI z 217 11 < gI z 217 10)) (k_170 b.1) (fun v4 s3 h3 => ?_)
  refine gT_ite (fun _ => gT_map (gT_ret ⟨rfl, Bm_t b h3.2.1⟩)) (fun hn => ?_)
  have q := Bm_at (Bm_t b h3.2.1) (h3.2.2 hn)
  have r10 := J_f (i := 10) h3.2.1.1 t12 rfl (by decide) rfl
  extract_lets s6
  refine gT_v1 (A := fun _ z => Bm p s6 z) (k_188 q.1.1) (fun v8 s7 b7 => ?_)
  refine gT_ret ⟨⟨rfl, Bm_t q.1 b7⟩, ?_⟩
  show (400 - gI s7 217 11).toNat < (400 - gI u 217 11).toNat
  have q1 := h3.2.1.2.2.1
  have q2 := b7.2.2.1
  have q3 : gI s6 217 11 = gI s3 217 11 + 1 := q.2
  have q4 := h3.2.2 hn
  omega
theorem k_190 (h : J p s) : gT (f_190 217 s) (fun r => r.1 = 1 ∧ (0 ≤ r.2.1 ∧ r.2.1 ≤ 1) ∧ Bm p s r.2.2.2) := by
  have hend : ∀ (x1 x2 : Int) (u : gS), Bm p s u → gI u 217 11 < gI u 217 10 → gT (fb_190_73 217 x1 x2 u) (fun r => r.1 = 1 ∧ (0 ≤ r.2.1 ∧ r.2.1 ≤ 1) ∧ Bm p s r.2.2.2) := by
    intro x1 x2 u b hx
    unfold fb_190_73
    have q := Bm_at b hx
    extract_lets s17
    refine gT_v1 (A := fun _ z => Bm p s17 z) (k_189 q.1.1) (fun v19 s18 b18 => ?_)
    have b := Bm_t q.1 b18
    exact gT_ite (fun _ => gT_ite (fun _ => gT_ret ⟨rfl, by first | decide | omega | (dsimp only; omega), b⟩) (fun _ => gT_ret ⟨rfl, by first | decide | omega | (dsimp only; omega), b⟩)) (fun _ => gT_ite (fun _ => gT_ret ⟨rfl, by first | decide | omega | (dsimp only; omega), b⟩) (fun _ => gT_ret ⟨rfl, by first | decide | omega | (dsimp only; omega), b⟩))
  unfold f_190
  refine gT_v1 (A := fun v z => (0 ≤ v ∧ v ≤ 1) ∧ Bm p s z ∧ (v ≠ 0 → gI s 217 11 + 1 ≤ gI z 217 11 ∧ gI z 217 11 ≤ gI s 217 10)) (k_171 h (gsl_pos 62 (by decide) (by decide))) (fun v2 s1 h1 => ?_)
  have b1 := h1.2.1
  have r15 := J_f (i := 15) b1.1 t12 rfl (by decide) rfl
  refine gT_ite (fun _ => ?_) (fun _ => gT_bool (by omega) (gT_ret ⟨rfl, r15, b1⟩))
  refine gT_v1 (A := fun v z => (0 ≤ v ∧ v ≤ 1) ∧ Bm p s1 z ∧ (v ≠ 0 → gI s1 217 11 + 1 ≤ gI z 217 11 ∧ gI z 217 11 ≤ gI s1 217 10)) (k_171 b1.1 (gsl_pos 63 (by decide) (by decide))) (fun v5 s4 h4 => ?_)
  have b4 := Bm_t b1 h4.2.1
  have r16 := J_f (i := 16) b4.1 t12 rfl (by decide) rfl
  refine gT_ite (fun _ => ?_) (fun _ => gT_bool (by omega) (gT_ret ⟨rfl, r16, b4⟩))
  refine gT_v1 (A := fun _ z => Bm p s4 z) (k_189 b4.1) (fun v8 s7 h7 => ?_)
  have b7 := Bm_t b4 h7
  refine gT_ite (fun _ => ?_) (fun _ => gT_ret ⟨rfl, by first | decide | omega | (dsimp only; omega), b7⟩)
  refine gT_v1 (A := fun v z => (0 ≤ v ∧ v ≤ 1) ∧ Bm p s7 z ∧ (v ≠ 0 → gI z 217 11 < gI z 217 10)) (k_170 b7.1) (fun v10 s9 h9 => ?_)
  have b9 := Bm_t b7 h9.2.1
  refine gT_ite (fun _ => ?_) (fun hn => hend _ _ _ b9 (h9.2.2 hn))
  refine gT_v1 (A := fun v z => (0 ≤ v ∧ v ≤ 1) ∧ Bm p s9 z ∧ (v ≠ 0 → gI z 217 11 < gI z 217 10)) (k_170 b9.1) (fun v13 s12 h12 => ?_)
  have b12 := Bm_t b9 h12.2.1
  refine gT_ite (fun _ => ?_) (fun hn => hend _ _ _ b12 (h12.2.2 hn))
  have r1 := J_f (i := 11) b12.1 t12 rfl (by decide) rfl
  exact gT_v0 (A := fun z => Bm p s12 z ∧ gI z 217 12 ≠ -1) (k_172 b12.1 r1.1) (fun z hz => gT_ret ⟨rfl, by first | decide | omega | (dsimp only; omega), Bm_t b12 hz.1⟩)
theorem Km_dp (h : Km p e d b u s) {d' : Int} (hd : 0 ≤ d' ∧ d' ≤ 6) : Km p e d' b u (gw s 217 13 d') := by
  have e1 : gI (gw s 217 13 d') 217 10 = gI s 217 10 := rd_k (a := 217) (k := 10) rfl (by decide)
  have e2 : gI (gw s 217 13 d') 217 11 = gI s 217 11 := rd_k (a := 217) (k := 11) rfl (by decide)
  have e3 : gI (gw s 217 13 d') 217 13 = d' := rd_same rfl
  obtain ⟨h0, h1, h2, h3, h4⟩ := h
  exact ⟨J_wf h0 t12 rfl (by decide) (by decide) (fun q hq => by cases hq; exact hd), by omega, e3, by omega, by omega⟩
theorem Km_at (h : Km p e d b u s) {u' : Int} (hu : gI s 217 11 + 1 ≤ u') (hu6 : u' ≤ 406) : Km p e d b u' (gw s 217 11 (g32 (gI s 217 11 + 1))) := by
  have r1 := J_f (i := 11) h.1 t12 rfl (by decide) rfl
  have e0 := g32_eq (v := gI s 217 11 + 1) (by omega) (by omega)
  rw [e0]
  have e1 : gI (gw s 217 11 (gI s 217 11 + 1)) 217 10 = gI s 217 10 := rd_k (a := 217) (k := 10) rfl (by decide)
  have e2 : gI (gw s 217 11 (gI s 217 11 + 1)) 217 11 = gI s 217 11 + 1 := rd_same rfl
  have e3 : gI (gw s 217 11 (gI s 217 11 + 1)) 217 13 = gI s 217 13 := rd_k (a := 217) (k := 13) rfl (by decide)
  obtain ⟨h0, h1, h2, h3, h4⟩ := h
  exact ⟨J_wf h0 t12 rfl (by decide) (by decide) (fun q hq => by cases hq; dsimp only; omega), by omega, by omega, by omega, by omega⟩
theorem k_191 {R S : Nat → gS → Option gO} (hd : 0 ≤ d ∧ d ≤ 6) (hu : e + 6 - d ≤ u) (hu6 : u ≤ 406) (hR : d < 6 → ∀ {b : Int} {s : gS}, Km p e (d + 1) b u s → gT (R 217 s) (fun r => r.1 = 1 ∧ (0 ≤ r.2.1 ∧ r.2.1 ≤ 1) ∧ Km p e (d + 1) b u r.2.2.2)) (hS : d < 6 → ∀ {b : Int} {s : gS}, Km p e (d + 1) b (e + 5 - d) s → gT (S 217 s) (fun r => r.1 = 1 ∧ (0 ≤ r.2.1 ∧ r.2.1 ≤ 1) ∧ Km p e (d + 1) b (e + 5 - d) r.2.2.2)) (h : Km p e d b u s) : gT (fo_191 R S 217 s) (fun r => r.1 = 1 ∧ (0 ≤ r.2.1 ∧ r.2.1 ≤ 1) ∧ Km p e d b u r.2.2.2) := by
  have heu : e ≤ u := by omega
  have h138 : ∀ (x : Int) (z : gS), (0 ≤ x ∧ x ≤ 1) → d < 6 → Km p e (d + 1) b u z → gT (fb_191_138 R S 217 x z) (fun r => r.1 = 1 ∧ (0 ≤ r.2.1 ∧ r.2.1 ≤ 1) ∧ Km p e d b u r.2.2.2) := by
    intro x z hx hd6 kz
    unfold fb_191_138
    have g := g32_eq (v := gI z 217 13 - 1) (by have := kz.2.2.1; omega) (by have := kz.2.2.1; omega)
    rw [g, kz.2.2.1, show d + 1 - 1 = d by omega]
    exact gT_bool (by omega) (gT_ret ⟨rfl, hx, Km_dp kz hd⟩)
  have h40 : ∀ (x1 x2 : Int) (z : gS), 0 ≤ x1 → Km p e d b u z → (x2 = 0 → gI z 217 11 < gI z 217 10) → gT (fb_191_40 R S 217 x1 x2 z) (fun r => r.1 = 1 ∧ (0 ≤ r.2.1 ∧ r.2.1 ≤ 1) ∧ Km p e d b u r.2.2.2) := by
    intro x1 x2 z hx1 kz hx
    unfold fb_191_40
    rw [kz.2.2.1]
    refine gT_ite (fun _ => ?_) (fun h6 => ?_)
    · exact gT_v0 (A := fun y => Bm p z y ∧ gI y 217 12 ≠ -1) (k_172 kz.1 hx1) (fun y hy => gT_ret ⟨rfl, by first | decide | omega | (dsimp only; omega), Km_b kz hy.1 heu⟩)
    have hd6 : d < 6 := by omega
    have g := g32_eq (v := d + 1) (by omega) (by omega)
    rw [g]
    extract_lets s14 s15
    have k14 : Km p e (d + 1) b u s14 := Km_dp kz (by omega)
    refine gT_ite (fun h0 => ?_) (fun _ => ?_)
    · have a14 : gI s14 217 11 = gI z 217 11 := rd_k (a := 217) (k := 11) (show s14 = gw z 217 13 (d + 1) from rfl) (by decide)
      have k15 : Km p e (d + 1) b (e + 5 - d) s15 := Km_at k14 (by have := hx h0; have := kz.2.1; omega) (by omega)
      refine gT_v1 (A := fun v y => (0 ≤ v ∧ v ≤ 1) ∧ Km p e (d + 1) b (e + 5 - d) y) (hS hd6 k15) (fun v17 s16 h16 => ?_)
      have h128 : ∀ y, Km p e (d + 1) b (e + 5 - d) y → gT (fb_191_128 R S 217 v17 y) (fun r => r.1 = 1 ∧ (0 ≤ r.2.1 ∧ r.2.1 ≤ 1) ∧ Km p e d b u r.2.2.2) := by
        intro y ky
        unfold fb_191_128
        exact h138 _ _ h16.1 hd6 (Km_at ky (by have := ky.2.2.2.2; omega) hu6)
      refine gT_ite (fun _ => ?_) (fun _ => h128 _ h16.2)
      refine gT_v1 (A := fun v y => (0 ≤ v ∧ v ≤ 1) ∧ Bm p s16 y ∧ (v ≠ 0 → gI y 217 11 < gI y 217 10)) (k_170 h16.2.1) (fun v20 s19 h19 => ?_)
      have k19 := Km_b h16.2 h19.2.1 (by omega)
      refine gT_ite (fun _ => ?_) (fun _ => h128 _ k19)
      have r1 := J_f (i := 11) k19.1 t12 rfl (by decide) rfl
      exact gT_v0 (A := fun y => Bm p s19 y ∧ gI y 217 12 ≠ -1) (k_172 k19.1 r1.1) (fun y hy => h128 _ (Km_b k19 hy.1 (by omega)))
    · refine gT_v1 (A := fun v y => (0 ≤ v ∧ v ≤ 1) ∧ Km p e (d + 1) b u y) (hR hd6 k14) (fun v27 s26 h26 => ?_)
      exact gT_ite (fun _ => h138 _ _ (by decide) hd6 h26.2) (fun _ => h138 _ _ (by decide) hd6 h26.2)
  unfold fo_191
  refine gT_ite (fun _ => ?_) (fun _ => gT_ret ⟨rfl, by first | decide | omega | (dsimp only; omega), h⟩)
  refine gT_v1 (A := fun v z => (v = gI z 217 11 ∧ 0 ≤ v ∧ v ≤ 406) ∧ Bm p s z) (k_173 h.1) (fun v2 s1 h1 => ?_)
  have k1 := Km_b h h1.2 heu
  refine gT_v1 (A := fun v z => (0 ≤ v ∧ v ≤ 1) ∧ Bm p s1 z ∧ (v ≠ 0 → gI s1 217 11 + 1 ≤ gI z 217 11 ∧ gI z 217 11 ≤ gI s1 217 10)) (k_171 k1.1 (gsl_pos 64 (by decide) (by decide))) (fun v4 s3 h3 => ?_)
  have k3 := Km_b k1 h3.2.1 heu
  refine gT_ite (fun h0 => ?_) (fun hn => h40 _ _ _ h1.1.2.1 k3 (fun e => absurd e hn))
  refine gT_v1 (A := fun v z => (0 ≤ v ∧ v ≤ 1) ∧ Bm p s3 z ∧ (v ≠ 0 → gI z 217 11 < gI z 217 10)) (k_170 k3.1) (fun v7 s6 h6 => ?_)
  have k6 := Km_b k3 h6.2.1 heu
  refine gT_ite (fun _ => ?_) (fun hn => h40 _ _ _ h1.1.2.1 k6 (fun _ => h6.2.2 hn))
  refine gT_v1 (A := fun v z => (0 ≤ v ∧ v ≤ 1) ∧ Bm p s6 z) (k_190 k6.1) (fun v10 s9 h9 => ?_)
  exact gT_ret ⟨rfl, h9.1, Km_b k6 h9.2 heu⟩
theorem k_192 {R : Nat → gS → Option gO} (heu : e ≤ u) (hR : ∀ {b : Int} {s : gS}, Km p e d b u s → gT (R 217 s) (fun r => r.1 = 1 ∧ (0 ≤ r.2.1 ∧ r.2.1 ≤ 1) ∧ Km p e d b u r.2.2.2)) (h : Km p e d b u s) : gT (fo_192 R 217 s) (fun r => r.1 = 1 ∧ (0 ≤ r.2.1 ∧ r.2.1 ≤ 1) ∧ Km p e d b u r.2.2.2) := by
  unfold fo_192
  refine gT_v1 (A := fun v z => (0 ≤ v ∧ v ≤ 1) ∧ Km p e d b u z) (hR h) (fun v2 s1 h1 => ?_)
  refine gT_loop (fun y => y.1 = 217 ∧ (0 ≤ y.2.1 ∧ y.2.1 ≤ 1) ∧ Km p e d b u y.2.2) (fun y => (u - gI y.2.2 217 11).toNat) (fun y hy => ?_) ⟨rfl, h1.1, h1.2⟩
  obtain ⟨x0, x1, z⟩ := y
  obtain ⟨q0, r1, k⟩ := hy
  dsimp only at q0 r1 k
  subst q0
  show gT (sb_192_5 R 217 x1 z) _
  unfold sb_192_5
  refine gT_ite (fun _ => ?_) (fun _ => gT_map (gT_bool (by omega) (gT_ret ⟨rfl, r1, k⟩)))
  refine gT_v1 (A := fun v y => (0 ≤ v ∧ v ≤ 1) ∧ Bm p z y ∧ (v ≠ 0 → gI z 217 11 + 1 ≤ gI y 217 11 ∧ gI y 217 11 ≤ gI z 217 10)) (k_171 k.1 (gsl_pos 65 (by decide) (by decide))) (fun v5 s4 h4 => ?_)
  have k4 := Km_b k h4.2.1 heu
  refine gT_ite (fun _ => gT_map (gT_bool (by omega) (gT_ret ⟨rfl, r1, k4⟩))) (fun hn => ?_)
  have q4 := (h4.2.2 hn).1
  have k4' : Km p e d (gI z 217 11 + 1) u s4 := ⟨k4.1, k4.2.1, k4.2.2.1, q4, k4.2.2.2.2⟩
  refine gT_v1 (A := fun v y => (0 ≤ v ∧ v ≤ 1) ∧ Km p e d (gI z 217 11 + 1) u y) (hR k4') (fun v8 s7 h7 => ?_)
  have k7 : Km p e d b u s7 := Km_lo h7.2 (by have := k.2.2.2.1; omega)
  have m7 : (u - gI s7 217 11).toNat < (u - gI z 217 11).toNat := by
    have := h7.2.2.2.2
    omega
  exact gT_ite (fun _ => gT_ret ⟨⟨rfl, by first | decide | omega | (dsimp only; omega), k7⟩, m7⟩) (fun _ => gT_ite (fun _ => gT_ret ⟨⟨rfl, by first | decide | omega | (dsimp only; omega), k7⟩, m7⟩) (fun _ => gT_ret ⟨⟨rfl, by first | decide | omega | (dsimp only; omega), k7⟩, m7⟩))
theorem k_193 {R : Nat → gS → Option gO} (heu : e ≤ u) (hR : ∀ {b : Int} {s : gS}, Km p e d b u s → gT (R 217 s) (fun r => r.1 = 1 ∧ (0 ≤ r.2.1 ∧ r.2.1 ≤ 1) ∧ Km p e d b u r.2.2.2)) (h : Km p e d b u s) : gT (fo_193 R 217 s) (fun r => r.1 = 1 ∧ (0 ≤ r.2.1 ∧ r.2.1 ≤ 1) ∧ Km p e d b u r.2.2.2) := by
  unfold fo_193
  refine gT_v1 (A := fun v z => (0 ≤ v ∧ v ≤ 1) ∧ Km p e d b u z) (hR h) (fun v2 s1 h1 => ?_)
  refine gT_loop (fun y => y.1 = 217 ∧ (0 ≤ y.2.1 ∧ y.2.1 ≤ 1) ∧ Km p e d b u y.2.2) (fun y => (u - gI y.2.2 217 11).toNat) (fun y hy => ?_) ⟨rfl, h1.1, h1.2⟩
  obtain ⟨x0, x1, z⟩ := y
  obtain ⟨q0, r1, k⟩ := hy
  dsimp only at q0 r1 k
  subst q0
  show gT (sb_193_5 R 217 x1 z) _
  unfold sb_193_5
  refine gT_ite (fun _ => ?_) (fun _ => gT_map (gT_bool (by omega) (gT_ret ⟨rfl, r1, k⟩)))
  refine gT_v1 (A := fun v y => (0 ≤ v ∧ v ≤ 1) ∧ Bm p z y ∧ (v ≠ 0 → gI z 217 11 + 1 ≤ gI y 217 11 ∧ gI y 217 11 ≤ gI z 217 10)) (k_171 k.1 (gsl_pos 66 (by decide) (by decide))) (fun v5 s4 h4 => ?_)
  have k4 := Km_b k h4.2.1 heu
  refine gT_ite (fun _ => gT_map (gT_bool (by omega) (gT_ret ⟨rfl, r1, k4⟩))) (fun hn => ?_)
  have q4 := (h4.2.2 hn).1
  have k4' : Km p e d (gI z 217 11 + 1) u s4 := ⟨k4.1, k4.2.1, k4.2.2.1, q4, k4.2.2.2.2⟩
  refine gT_v1 (A := fun v y => (0 ≤ v ∧ v ≤ 1) ∧ Km p e d (gI z 217 11 + 1) u y) (hR k4') (fun v8 s7 h7 => ?_)
  have k7 : Km p e d b u s7 := Km_lo h7.2 (by have := k.2.2.2.1; omega)
  have m7 : (u - gI s7 217 11).toNat < (u - gI z 217 11).toNat := by
    have := h7.2.2.2.2
    omega
  exact gT_ite (fun _ => gT_ite (fun _ => gT_ret ⟨⟨rfl, by first | decide | omega | (dsimp only; omega), k7⟩, m7⟩) (fun _ => gT_ret ⟨⟨rfl, by first | decide | omega | (dsimp only; omega), k7⟩, m7⟩)) (fun _ => gT_ret ⟨⟨rfl, by first | decide | omega | (dsimp only; omega), k7⟩, m7⟩)
theorem k_rg (n : Nat) : ∀ {e d b u : Int} {s : gS}, 0 ≤ d ∧ d ≤ 6 → e + 6 - d ≤ u → u ≤ 406 → Km p e d b u s → (3 * (6 - d) + 3 ≤ n → gT (fn_193 n 217 s) (fun r => r.1 = 1 ∧ (0 ≤ r.2.1 ∧ r.2.1 ≤ 1) ∧ Km p e d b u r.2.2.2)) ∧ (3 * (6 - d) + 2 ≤ n → gT (fn_192 n 217 s) (fun r => r.1 = 1 ∧ (0 ≤ r.2.1 ∧ r.2.1 ≤ 1) ∧ Km p e d b u r.2.2.2)) ∧ (3 * (6 - d) + 1 ≤ n → gT (fn_191 n 217 s) (fun r => r.1 = 1 ∧ (0 ≤ r.2.1 ∧ r.2.1 ≤ 1) ∧ Km p e d b u r.2.2.2)) := by
  induction n with
  | zero => intro e d b u s hd hu hu6 h; exact ⟨fun e => by omega, fun e => by omega, fun e => by omega⟩
  | succ n ih =>
    intro e d b u s hd hu hu6 h
    refine ⟨fun e => ?_, fun e => ?_, fun e => ?_⟩
    · exact k_193 (R := fn_192 n) (by omega) (fun h => (ih hd hu hu6 h).2.1 (by omega)) h
    · exact k_192 (R := fn_191 n) (by omega) (fun h => (ih hd hu hu6 h).2.2 (by omega)) h
    · exact k_191 (R := fn_191 n) (S := fn_193 n) hd hu hu6 (fun h6 _ _ h => (ih (by omega) (by omega) hu6 h).2.2 (by omega)) (fun h6 _ _ h => (ih (by omega) (by omega) (by omega) h).1 (by omega)) h
theorem k_f193 (h : J p s) : gT (f_193 217 s) (fun r => r.1 = 1 ∧ (0 ≤ r.2.1 ∧ r.2.1 ≤ 1) ∧ J p r.2.2.2) := by
  have r10 := J_f (i := 10) h t12 rfl (by decide) rfl
  have r13 := J_f (i := 13) h t12 rfl (by decide) rfl
  exact gT_mono ((k_rg 24 r13 (by omega) (by decide) (Km_of h)).1 (by omega)) (fun r hr => ⟨hr.1, hr.2.1, hr.2.2.1⟩)
theorem k_194 (h : J p s) : gT (f_194 217 s) (fun r => r.1 = 0 ∧ J p r.2.2.2) := by
  have h67 : ∀ (x1 x2 w : Int) (z : gS), J p z → gT (fb_194_67 217 x1 x2 w z) (fun r => r.1 = 0 ∧ J p r.2.2.2) := by
    intro x1 x2 w z jz
    have h95 : ∀ a c : Int, gT (fb_194_95 a c 217 z) (fun r => r.1 = 0 ∧ J p r.2.2.2) := by
      intro a c
      unfold fb_194_95
      exact gT_ret ⟨rfl, J_wf jz t12 rfl (by decide) (by decide) (fun q hq => by cases hq)⟩
    unfold fb_194_67
    exact gT_ite (fun _ => gT_ite (fun _ => gT_ret ⟨rfl, jz⟩) (fun _ => gT_ite (fun _ => h95 _ _) (fun _ => h95 _ _))) (fun _ => gT_ret ⟨rfl, jz⟩)
  have h29 : ∀ (x : Int) (z : gS), J p z → gT (fb_194_29 217 x z) (fun r => r.1 = 0 ∧ J p r.2.2.2) := by
    intro x z jz
    unfold fb_194_29
    refine gT_v1 (A := fun v y => Bm p z y ∧ (gI y 217 12 = -1 → 0 ≤ v ∧ v ≤ 30)) (k_174 jz) (fun v10 s9 h9 => ?_)
    refine gT_ite (fun _ => ?_) (fun _ => gT_ret ⟨rfl, h9.1.1⟩)
    refine gT_v1 (A := fun v y => (0 ≤ v ∧ v ≤ 1) ∧ Bm p s9 y ∧ (v ≠ 0 → gI s9 217 11 + 1 ≤ gI y 217 11 ∧ gI y 217 11 ≤ gI s9 217 10)) (k_171 h9.1.1 (gsl_pos 69 (by decide) (by decide))) (fun v12 s11 h11 => ?_)
    refine gT_ite (fun _ => h67 _ _ _ _ h11.2.1.1) (fun _ => ?_)
    refine gT_v1 (A := fun v y => (0 ≤ v ∧ v ≤ 1) ∧ J p y) (k_f193 h11.2.1.1) (fun v16 s15 h15 => ?_)
    exact gT_ite (fun _ => h67 _ _ _ _ h15.2) (fun _ => h67 _ _ _ _ h15.2)
  unfold f_194
  refine gT_v1 (A := fun v y => (0 ≤ v ∧ v ≤ 1) ∧ Bm p s y ∧ (v ≠ 0 → gI s 217 11 + 1 ≤ gI y 217 11 ∧ gI y 217 11 ≤ gI s 217 10)) (k_171 h (gsl_pos 67 (by decide) (by decide))) (fun v2 s1 h1 => ?_)
  refine gT_ite (fun _ => ?_) (fun _ => h29 _ _ h1.2.1.1)
  refine gT_v1 (A := fun v y => (0 ≤ v ∧ v ≤ 1) ∧ Bm p s1 y ∧ (v ≠ 0 → gI s1 217 11 + 1 ≤ gI y 217 11 ∧ gI y 217 11 ≤ gI s1 217 10)) (k_171 h1.2.1.1 (gsl_pos 68 (by decide) (by decide))) (fun v5 s4 h4 => ?_)
  refine gT_ite (fun _ => ?_) (fun _ => h29 _ _ h4.2.1.1)
  have r1 := J_f (i := 11) h4.2.1.1 t12 rfl (by decide) rfl
  exact gT_v0 (A := fun y => Bm p s4 y ∧ gI y 217 12 ≠ -1) (k_172 h4.2.1.1 r1.1) (fun y hy => gT_ret ⟨rfl, hy.1.1⟩)
theorem k_184 {a : Int} (h : J p s) : gT (f_184 217 a s) (fun r => r.1 = 1 ∧ J p r.2.2.2) := by
  unfold f_184
  refine gT_v0 (A := fun z => Bm p s z) (k_169 h) (fun s1 b1 => ?_)
  obtain ⟨L, hL⟩ : ∃ L : Int, L = if a = 0 then 14 else 12 := ⟨_, rfl⟩
  have hL' : (a = 0 → L = 14) ∧ (a ≠ 0 → L = 12) := ⟨fun e => by rw [hL, if_pos e], fun e => by rw [hL, if_neg e]⟩
  clear hL
  have hgo : ∀ w : Int, gT (fb_184_20 217 a w s1) (fun r => r.1 = 1 ∧ J p r.2.2.2) := by
    intro w
    unfold fb_184_20
    refine gT_loop (fun y => y.1 = 217 ∧ y.2.1 = a ∧ (0 ≤ y.2.2.2.1 ∧ y.2.2.2.1 ≤ 15) ∧ (y.2.2.2.1 ≤ L ∨ gI y.2.2.2.2 217 12 ≠ -1) ∧ J p y.2.2.2.2) (fun y => (16 - y.2.2.2.1).toNat) (fun y hy => ?_) ⟨rfl, rfl, by dsimp only; omega, by dsimp only; omega, b1.1⟩
    obtain ⟨x0, x1, x2, x3, z⟩ := y
    obtain ⟨q0, q1, r3, hf, jz⟩ := hy
    dsimp only at q0 q1 r3 hf jz
    subst q0 q1
    have e5 := g32_eq (v := x3 + 1) (by omega) (by omega)
    have h80 : ∀ y : gS, x3 ≤ L → J p y → (x3 + 1 ≤ L ∨ gI y 217 12 ≠ -1) → gT (fb_184_80 217 x1 x2 x3 y) (Sum.elim (fun o => (o.1 = 217 ∧ o.2.1 = x1 ∧ (0 ≤ o.2.2.2.1 ∧ o.2.2.2.1 ≤ 15) ∧ (o.2.2.2.1 ≤ L ∨ gI o.2.2.2.2 217 12 ≠ -1) ∧ J p o.2.2.2.2) ∧ (16 - o.2.2.2.1).toNat < (16 - x3).toNat) (fun r => r.1 = 1 ∧ J p r.2.2.2)) := by
      intro y hxL jy hy
      have hx15 : x3 ≤ 14 := by omega
      unfold fb_184_80
      refine gT_v0 (A := fun o => Bm p y o) (k_169 jy) (fun s7 b7 => ?_)
      refine gT_ite (fun h0 => ?_) (fun h0 => gT_ret ⟨⟨rfl, rfl, by dsimp only; omega, Or.inr h0, b7.1⟩, by dsimp only; omega⟩)
      have hx1 : x3 + 1 ≤ L := hy.resolve_right (fun e => e (b7.2.2.2.2 h0))
      refine gT_ite (fun _ => gT_ret ⟨⟨rfl, rfl, by dsimp only; omega, by dsimp only; omega, b7.1⟩, by dsimp only; omega⟩) (fun _ => ?_)
      refine gT_v1 (A := fun v o => (0 ≤ v ∧ v ≤ 1) ∧ Bm p s7 o ∧ (v ≠ 0 → gI o 217 11 < gI o 217 10)) (k_170 b7.1) (fun v10 s9 h9 => ?_)
      refine gT_ite (fun _ => ?_) (fun hn => ?_)
      · have r1 := J_f (i := 11) h9.2.1.1 t12 rfl (by decide) rfl
        exact gT_v0 (A := fun o => Bm p s9 o ∧ gI o 217 12 ≠ -1) (k_172 h9.2.1.1 r1.1) (fun o ho => gT_ret ⟨⟨rfl, rfl, by dsimp only; omega, by dsimp only; omega, ho.1.1⟩, by dsimp only; omega⟩)
      · have q := Bm_at h9.2.1 (h9.2.2 hn)
        exact gT_ret ⟨⟨rfl, rfl, by dsimp only; omega, by dsimp only; omega, q.1.1⟩, by dsimp only; omega⟩
    show gT (sb_184_23 217 x1 x2 x3 z) _
    unfold sb_184_23
    refine gT_ite (fun _ => gT_map (gT_ret ⟨rfl, jz⟩)) (fun _ => ?_)
    refine gT_ite (fun h0 => ?_) (fun _ => gT_map (gT_ret ⟨rfl, jz⟩))
    have hxL : x3 ≤ L := hf.resolve_right (fun e => e h0)
    refine gT_v0 (A := fun o => Bm p z o) (k_169 jz) (fun s3 b3 => ?_)
    have h51 : ∀ W : Int, W = L → gT (fb_184_51 217 x1 x2 x3 W x3 s3) (Sum.elim (fun o => (o.1 = 217 ∧ o.2.1 = x1 ∧ (0 ≤ o.2.2.2.1 ∧ o.2.2.2.1 ≤ 15) ∧ (o.2.2.2.1 ≤ L ∨ gI o.2.2.2.2 217 12 ≠ -1) ∧ J p o.2.2.2.2) ∧ (16 - o.2.2.2.1).toNat < (16 - x3).toNat) (fun r => r.1 = 1 ∧ J p r.2.2.2)) := by
      intro W hW
      unfold fb_184_51
      refine gT_ite (fun _ => ?_) (fun hn => ?_)
      · have r1 := J_f (i := 11) b3.1 t12 rfl (by decide) rfl
        exact gT_v0 (A := fun o => Bm p s3 o ∧ gI o 217 12 ≠ -1) (k_172 b3.1 r1.1) (fun o ho => h80 _ hxL ho.1.1 (Or.inr ho.2))
      · refine gT_ite (fun _ => ?_) (fun _ => ?_)
        · exact gT_v0 (A := fun o => J p o) (c_182 b3.1) (fun o ho => h80 _ hxL ho (Or.inl (by omega)))
        · exact gT_v0 (A := fun o => J p o) (k_194 b3.1) (fun o ho => h80 _ hxL ho (Or.inl (by omega)))
    exact gT_ite (fun h => h51 14 (by omega)) (fun h => h51 12 (by omega))
  exact gT_ite (fun _ => hgo _) (fun _ => hgo _)
/-- for callers that know only J -/
theorem d_184 {a0 : Nat} {a1 : Int} (_hp : -1 ≤ p.1 ∧ p.1 ≤ 0) (h : J p s) (t0 : T 12 a0) : gT (f_184 a0 a1 s) (fun r => r.1 = 1 ∧ True ∧ J p r.2.2.2) := by
  rw [T_12 t0]
  exact gT_mono (k_184 h) (fun _ hr => ⟨hr.1, trivial, hr.2⟩)
end Lw

end
section
section Ac
variable {p : gP} {s s2 : gS} {a a0 f k : Nat} {v : Int}
theorem k0_pl : k0 29 = 340 ∧ k0 31 = 340 ∧ k0 32 = 340 ∧ k0 224 = 340 ∧ k0 225 = 340 ∧ k0 226 = 340 ∧ k0 227 = 340 := by decide +kernel
theorem J_wpl (h : J p s) (h2 : J p s2) (t : T 9 a) (hf : f = 3 ∨ f = 5 ∨ f = 6) : J p (gw s (gR s2 a f) k v) := by
  rw [T_9 t]
  have e := k0_pl
  rcases hf with rfl | rfl | rfl
  · rw [J_r (r := 29) h2 rfl (by decide +kernel) (by decide +kernel)]
    exact J_wb h (by omega) (fun q hq => by cases hq)
  · rw [J_r (r := 31) h2 rfl (by decide +kernel) (by decide +kernel)]
    exact J_wb h (by omega) (fun q hq => by cases hq)
  · rw [J_r (r := 32) h2 rfl (by decide +kernel) (by decide +kernel)]
    exact J_wb h (by omega) (fun q hq => by cases hq)
theorem J_wmo (h : J p s) (h2 : J p s2) (t : T 12 a) (hf : f = 18 ∨ f = 19 ∨ f = 20 ∨ f = 21) : J p (gw s (gR s2 a f) k v) := by
  rw [T_12 t]
  have e := k0_pl
  rcases hf with rfl | rfl | rfl | rfl
  · rw [J_r (r := 224) h2 rfl (by decide +kernel) (by decide +kernel)]
    exact J_wb h (by omega) (fun q hq => by cases hq)
  · rw [J_r (r := 225) h2 rfl (by decide +kernel) (by decide +kernel)]
    exact J_wb h (by omega) (fun q hq => by cases hq)
  · rw [J_r (r := 226) h2 rfl (by decide +kernel) (by decide +kernel)]
    exact J_wb h (by omega) (fun q hq => by cases hq)
  · rw [J_r (r := 227) h2 rfl (by decide +kernel) (by decide +kernel)]
    exact J_wb h (by omega) (fun q hq => by cases hq)
theorem r_ac (h : J p s) : gR s 217 5 = 221 := J_r h rfl (by decide +kernel) (by decide +kernel)
theorem c209_b {s0 : gS} (h : J p s) (h6 : gI s 217 6 ≤ 11) (hm : ∀ k, gI s 218 k = gI s0 218 k) : gT (fb_209_50 217 s) (fun r => r.1 = 0 ∧ J p r.2.2.2 ∧ ∀ k, gI r.2.2.2 218 k = gI s0 218 k) := by
  unfold fb_209_50
  refine gT_loop (fun y => y.1 = 217 ∧ (0 ≤ y.2.1 ∧ y.2.1 ≤ 340) ∧ J p y.2.2 ∧ gI y.2.2 217 6 ≤ 11 ∧ ∀ k, gI y.2.2 218 k = gI s0 218 k) (fun y => (340 - y.2.1).toNat) (fun y hy => ?_) ⟨rfl, by dsimp only; omega, h, h6, hm⟩
  obtain ⟨x0, x1, z⟩ := y
  obtain ⟨q0, r1, h, h6, hm⟩ := hy
  dsimp only at q0 r1 h h6 hm
  subst q0
  have r6 := J_f (i := 6) h t12 rfl (by decide) rfl
  have g1 := g32_eq (v := 340 * gI z 217 6) (by omega) (by omega)
  have g2 := g32_eq (v := 340 * gI z 217 6 + x1) (by omega) (by omega)
  have g3 := g32_eq (v := x1 + 1) (by omega) (by omega)
  show gT (sb_209_52 217 x1 z) _
  unfold sb_209_52
  rw [g1, g2, g3]
  refine gT_ite (fun hx => ?_) (fun _ => gT_map ?_)
  · refine gT_chk (by omega) (by omega) (gT_chk (by omega) (by omega) ?_)
    extract_lets s3
    have j3 : J p s3 := J_cpm h h h h t12 t12 (by decide) (by decide) (show (340 * gI z 217 6 + x1).toNat % 340 = x1.toNat by omega)
    have e3 : s3 = gw z 221 (340 * gI z 217 6 + x1).toNat (gI z (gR z 217 1) x1.toNat) := by
      show gw z (gR z 217 5) _ _ = _
      rw [r_ac h]
    have e6 : gI s3 217 6 = gI z 217 6 := rd_a e3 (by decide)
    exact gT_ret ⟨⟨rfl, by dsimp only; omega, j3, by dsimp only; omega, fun k => (rd_a e3 (by decide)).trans (hm k)⟩, by dsimp only; omega⟩
  · extract_lets s4
    have g4 := g32_eq (v := gI z 217 6 + 1) (by omega) (by omega)
    have j4 : J p s4 := J_wf h t12 rfl (by decide) (by decide) (fun q hq => by cases hq; dsimp only; omega)
    exact gT_ret ⟨rfl, j4, fun k => (rd_a (show s4 = gw z 217 6 (g32 (gI z 217 6 + 1)) from rfl) (by decide)).trans (hm k)⟩
theorem c_209 (h : J p s) : gT (f_209 217 s) (fun r => r.1 = 0 ∧ J p r.2.2.2 ∧ ∀ k, gI r.2.2.2 218 k = gI s 218 k) := by
  have r6 := J_f (i := 6) h t12 rfl (by decide) rfl
  unfold f_209
  refine gT_ite (fun h12 => ?_) (fun _ => c209_b h (by omega) (fun _ => rfl))
  refine gT_loop (fun y => y.1 = 217 ∧ (0 ≤ y.2.1 ∧ y.2.1 ≤ 3740) ∧ J p y.2.2 ∧ gI y.2.2 217 6 = 12 ∧ ∀ k, gI y.2.2 218 k = gI s 218 k) (fun y => (3740 - y.2.1).toNat) (fun y hy => ?_) ⟨rfl, by dsimp only; omega, h, h12, fun _ => rfl⟩
  obtain ⟨x0, x1, z⟩ := y
  obtain ⟨q0, r1, h, h12, hm⟩ := hy
  dsimp only at q0 r1 h h12 hm
  subst q0
  have r6 := J_f (i := 6) h t12 rfl (by decide) rfl
  have g2 := g32_eq (v := x1 + 340) (by omega) (by omega)
  have g3 := g32_eq (v := x1 + 1) (by omega) (by omega)
  show gT (sb_209_11 217 x1 z) _
  unfold sb_209_11
  rw [g2, g3]
  refine gT_ite (fun hx => ?_) (fun _ => gT_map ?_)
  · refine gT_chk (by omega) (by omega) (gT_chk (by omega) (by omega) ?_)
    extract_lets s3
    have j3 : J p s3 := J_cpm h h h h t12 t12 (by decide) (by decide) (show x1.toNat % 340 = (x1 + 340).toNat % 340 by omega)
    have e3 : s3 = gw z 221 x1.toNat (gI z (gR z 217 5) (x1 + 340).toNat) := by
      show gw z (gR z 217 5) _ _ = _
      rw [r_ac h]
    exact gT_ret ⟨⟨rfl, by dsimp only; omega, j3, (rd_a e3 (by decide)).trans h12, fun k => (rd_a e3 (by decide)).trans (hm k)⟩, by dsimp only; omega⟩
  · extract_lets s2
    have g4 := g32_eq (v := gI z 217 6 - 1) (by omega) (by omega)
    have j2 : J p s2 := J_wf h t12 rfl (by decide) (by decide) (fun q hq => by cases hq; dsimp only; omega)
    have e2 : gI s2 217 6 = g32 (gI z 217 6 - 1) := rd_same (show s2 = gw z 217 6 (g32 (gI z 217 6 - 1)) from rfl)
    exact c209_b j2 (by omega) (fun k => (rd_a (show s2 = gw z 217 6 (g32 (gI z 217 6 - 1)) from rfl) (by decide)).trans (hm k))
theorem d_209 (_hp : -1 ≤ p.1 ∧ p.1 ≤ 0) (h : J p s) (t0 : T 12 a0) : gT (f_209 a0 s) (fun r => r.1 = 0 ∧ J p r.2.2.2) := by
  rw [T_12 t0]
  exact gT_mono (c_209 h) (fun _ hr => ⟨hr.1, hr.2.1⟩)
theorem d_260 (_hp : -1 ≤ p.1 ∧ p.1 ≤ 0) (h : J p s) (t0 : T 12 a0) : gT (f_260 a0 s) (fun r => r.1 = 1 ∧ (0 ≤ r.2.1 ∧ r.2.1 ≤ 1) ∧ J p r.2.2.2) := by
  rw [T_12 t0]
  unfold f_260
  extract_lets s1 s2
  have j1 : J p s1 := J_wf h t12 rfl (by decide) (by decide) (fun q hq => by cases hq)
  have r6 := J_f (i := 6) j1 t12 rfl (by decide) rfl
  refine gT_ite (fun _ => gT_ret ⟨rfl, by dsimp only; omega, j1⟩) (fun hn => ?_)
  have g4 := g32_eq (v := gI s1 217 6 - 1) (by omega) (by omega)
  have j2 : J p s2 := J_wf j1 t12 rfl (by decide) (by decide) (fun q hq => by cases hq; dsimp only; omega)
  have e2 : gI s2 217 6 = g32 (gI s1 217 6 - 1) := rd_same (show s2 = gw s1 217 6 (g32 (gI s1 217 6 - 1)) from rfl)
  refine gT_loop (fun y => y.1 = 217 ∧ (0 ≤ y.2.1 ∧ y.2.1 ≤ 340) ∧ J p y.2.2 ∧ gI y.2.2 217 6 ≤ 11) (fun y => (340 - y.2.1).toNat) (fun y hy => ?_) ⟨rfl, by dsimp only; omega, j2, by dsimp only; omega⟩
  obtain ⟨x0, x1, z⟩ := y
  obtain ⟨q0, r1, h, h6⟩ := hy
  dsimp only at q0 r1 h h6
  subst q0
  have r6 := J_f (i := 6) h t12 rfl (by decide) rfl
  have g1 := g32_eq (v := 340 * gI z 217 6) (by omega) (by omega)
  have g2 := g32_eq (v := 340 * gI z 217 6 + x1) (by omega) (by omega)
  have g3 := g32_eq (v := x1 + 1) (by omega) (by omega)
  show gT (sb_260_26 217 x1 z) _
  unfold sb_260_26
  rw [g1, g2, g3]
  refine gT_ite (fun hx => ?_) (fun _ => gT_map (gT_ret ⟨rfl, by dsimp only; omega, h⟩))
  refine gT_chk (by omega) (by omega) (gT_chk (by omega) (by omega) ?_)
  extract_lets s3
  have j3 : J p s3 := J_cpm h h h h t12 t12 (by decide) (by decide) (show x1.toNat = (340 * gI z 217 6 + x1).toNat % 340 by omega)
  have e3 : s3 = gw z 218 x1.toNat (gI z (gR z 217 5) (340 * gI z 217 6 + x1).toNat) := by
    show gw z (gR z 217 1) _ _ = _
    rw [r_m h t12]
  have e6 : gI s3 217 6 = gI z 217 6 := rd_a e3 (by decide)
  exact gT_ret ⟨⟨rfl, by dsimp only; omega, j3, by dsimp only; omega⟩, by dsimp only; omega⟩
end Ac

end
