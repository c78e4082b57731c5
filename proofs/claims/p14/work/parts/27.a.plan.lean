theorem t9 : T 9 27 := ⟨by decide, by decide +kernel⟩
section Pl
variable {p : gP} {s : gS} {a0 : Nat} {d n t : Int}
theorem c_72 (h : J p s) (ht : 0 ≤ t ∧ t ≤ 99) : gT (f_72 27 t s) (fun r => r.1 = 1 ∧ (0 ≤ r.2.1 ∧ r.2.1 ≤ 99) ∧ J p r.2.2.2) := by
  have e1 : gR s 27 1 = 9 := J_r h rfl (by decide +kernel) (by decide +kernel)
  have b9 := J_9i h (T_f (i := 1) h t9 (by decide) rfl rfl)
  rw [e1, if_neg (by decide)] at b9
  unfold f_72
  rw [e1]
  have g := g32_eq (v := t + gI s 9 9) (by omega) (by omega)
  exact gT_ret ⟨rfl, by dsimp only; omega, h⟩
theorem d_72r (_hp : -1 ≤ p.1 ∧ p.1 ≤ 0) (h : J p s) (t0 : T 9 a0) (ht : 0 ≤ t ∧ t ≤ 99) : gT (f_72 a0 t s) (fun r => r.1 = 1 ∧ (0 ≤ r.2.1 ∧ r.2.1 ≤ 99) ∧ J p r.2.2.2) := by
  rw [T_9 t0]
  exact c_72 h ht
theorem n_70 {R S : Nat → Int → Int → Int → gS → Option gO} (hd : 0 ≤ d ∧ d ≤ 30) (hn : 0 ≤ n ∧ n ≤ 9) (ht : 0 ≤ t ∧ t ≤ 99) (hS : d ≤ 29 → ∀ {s : gS}, J p s → gT (S 27 d n t s) (fun r => r.1 = 1 ∧ True ∧ J p r.2.2.2)) (hR : d ≤ 29 → 1 ≤ n → ∀ {t : Int} {s : gS}, 0 ≤ t ∧ t ≤ 99 → J p s → gT (R 27 d (n - 1) t s) (fun r => r.1 = 1 ∧ True ∧ J p r.2.2.2)) (h : J p s) : gT (fo_70 R S 27 d n t s) (fun r => r.1 = 1 ∧ True ∧ J p r.2.2.2) := by
  have r8 := J_f (i := 8) h t9 rfl (by decide) rfl
  unfold fo_70
  refine gT_ite (fun hx => ?_) (fun _ => gT_ret ⟨rfl, trivial, h⟩)
  refine gT_ite (fun _ => ?_) (fun _ => gT_ret ⟨rfl, trivial, h⟩)
  refine gT_ite (fun _ => ?_) (fun _ => gT_ret ⟨rfl, trivial, h⟩)
  have q0 := gdiv_eq (x := d) (c := 12) (by omega) (by decide)
  have g1 := g32_eq (v := d / 12 * 10) (by omega) (by omega)
  have g2 := g32_eq (v := d / 12 * 10 + n) (by omega) (by omega)
  have g3 := g32_eq (v := (d / 12 * 10 + n) * 100) (by omega) (by omega)
  have g4 := g32_eq (v := (d / 12 * 10 + n) * 100 + t) (by omega) (by omega)
  rw [q0, g1, g2, g3, g4]
  extract_lets v1 v2 v3
  have hv1 : v1 = (d / 12 * 10 + n) * 100 + t := rfl
  have r1 : 0 ≤ v1 ∧ v1 < 3000 := by omega
  clear_value v1 v2
  refine gT_chk r1.1 r1.2 ?_
  have hend : ∀ (x : Int) (z : gS), J p z → gT (fb_70_117 R S 27 v1 v2 x z) (fun r => r.1 = 1 ∧ True ∧ J p r.2.2.2) := by
    intro x z jz
    unfold fb_70_117
    exact gT_chk r1.1 r1.2 (gT_chk r1.1 r1.2 (gT_ret ⟨rfl, trivial, J_wa jz (T_f (i := 7) jz t9 (by decide) rfl rfl) rfl⟩))
  refine gT_ite (fun _ => gT_ret ⟨rfl, trivial, h⟩) (fun _ => ?_)
  refine gT_v1 (A := fun _ z => True ∧ J p z) (hS (by omega) h) (fun v5 s4 h4 => ?_)
  refine gT_ite (fun h1 => ?_) (fun _ => hend _ _ h4.2)
  refine gT_ite (fun _ => ?_) (fun _ => hend _ _ h4.2)
  refine gT_v1 (A := fun v z => (0 ≤ v ∧ v ≤ 99) ∧ J p z) (c_72 h4.2 ht) (fun v7 s6 h6 => ?_)
  have g5 := g32_eq (v := n - 1) (by omega) (by omega)
  rw [g5]
  refine gT_v1 (A := fun _ z => True ∧ J p z) (hR (by omega) (by omega) h6.1 h6.2) (fun v9 s8 h8 => ?_)
  exact hend _ _ h8.2
theorem n_71 {R : Nat → Int → Int → Int → gS → Option gO} (hp : -1 ≤ p.1 ∧ p.1 ≤ 0) (hd : 0 ≤ d ∧ d ≤ 29) (hn : 0 ≤ n ∧ n ≤ 9) (ht : 0 ≤ t ∧ t ≤ 99) (hR : ∀ {t : Int} {s : gS}, 0 ≤ t ∧ t ≤ 99 → J p s → gT (R 27 (d + 1) n t s) (fun r => r.1 = 1 ∧ True ∧ J p r.2.2.2)) (h : J p s) : gT (fo_71 R 27 d n t s) (fun r => r.1 = 1 ∧ True ∧ J p r.2.2.2) := by
  unfold fo_71
  refine gT_v1 (A := fun v z => (0 ≤ v ∧ v ≤ 99) ∧ J p z) (d_73 hp h t9 hd hn ht) (fun v2 s1 h1 => ?_)
  refine gT_ite (fun _ => gT_ret ⟨rfl, trivial, h1.2⟩) (fun _ => ?_)
  have g5 := g32_eq (v := d + 1) (by omega) (by omega)
  rw [g5]
  refine gT_v1 (A := fun _ z => True ∧ J p z) (hR h1.1 h1.2) (fun v4 s3 h3 => ?_)
  exact gT_ret ⟨rfl, trivial, h3.2⟩
theorem n_rg (hp : -1 ≤ p.1 ∧ p.1 ≤ 0) (m : Nat) : ∀ {d n t : Int} {s : gS}, 0 ≤ d ∧ d ≤ 30 → 0 ≤ n ∧ n ≤ 9 → 0 ≤ t ∧ t ≤ 99 → J p s → (2 * (30 - d) + n + 1 ≤ m → gT (fn_70 m 27 d n t s) (fun r => r.1 = 1 ∧ True ∧ J p r.2.2.2)) ∧ (d ≤ 29 → 2 * (30 - d) + n ≤ m → gT (fn_71 m 27 d n t s) (fun r => r.1 = 1 ∧ True ∧ J p r.2.2.2)) := by
  induction m with
  | zero => intro d n t s hd hn ht h; exact ⟨fun e => by omega, fun e1 e => by omega⟩
  | succ m ih =>
    intro d n t s hd hn ht h
    refine ⟨fun e => ?_, fun e1 e => ?_⟩
    · exact n_70 (R := fn_70 m) (S := fn_71 m) hd hn ht (fun q _ h => (ih hd hn ht h).2 q (by omega)) (fun q q1 _ _ ht h => (ih hd (by omega) ht h).1 (by omega)) h
    · exact n_71 (R := fn_70 m) hp (by omega) hn ht (fun ht h => (ih (by omega) hn ht h).1 (by omega)) h
theorem d_70 {a1 a2 a3 : Int} (hp : -1 ≤ p.1 ∧ p.1 ≤ 0) (h : J p s) (t0 : T 9 a0) (r1 : 0 ≤ a1 ∧ a1 ≤ 30) (r2 : 0 ≤ a2 ∧ a2 ≤ 9) (r3 : 0 ≤ a3 ∧ a3 ≤ 99) : gT (f_70 a0 a1 a2 a3 s) (fun r => r.1 = 1 ∧ True ∧ J p r.2.2.2) := by
  rw [T_9 t0]
  exact (n_rg hp 80 r1 r2 r3 h).1 (by omega)
theorem d_71 {a1 a2 a3 : Int} (hp : -1 ≤ p.1 ∧ p.1 ≤ 0) (h : J p s) (t0 : T 9 a0) (r1 : 0 ≤ a1 ∧ a1 ≤ 29) (r2 : 0 ≤ a2 ∧ a2 ≤ 9) (r3 : 0 ≤ a3 ∧ a3 ≤ 99) : gT (f_71 a0 a1 a2 a3 s) (fun r => r.1 = 1 ∧ True ∧ J p r.2.2.2) := by
  rw [T_9 t0]
  exact (n_rg hp 80 (by omega) r2 r3 h).2 r1.2 (by omega)
end Pl
