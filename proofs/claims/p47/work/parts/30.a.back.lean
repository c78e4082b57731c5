section Bk2
variable {q : Int × Int × Int × Int} {s : gS}
theorem gQ_if {Q : Type} {x y : Option Q} {P : Q → Prop} {c : Prop} [Decidable c] (h1 : c → gQ x P) (h2 : ¬ c → gQ y P) : gQ (if c then x else y) P := by
  by_cases h : c
  · rw [if_pos h]; exact h1 h
  · rw [if_neg h]; exact h2 h
theorem b_132 (h : J (-1, q) s) : gT (f_132 0 s) (fun r => r.1 = 1 ∧ ((q.2.2.1 = 0 ∧ r.2.1 = 0) ∨ (q.2.2.1 ≠ 0 ∧ r.2.1 = 1)) ∧ J (-1, q) r.2.2.2) := by
  have hp : (-1 : Int) ≤ -1 ∧ (-1 : Int) ≤ 0 := by decide
  have g : gI s 0 15 = q.2.2.1 := h.2.2.2.2.1
  have w : gQ (f_132 0 s) (fun r => (q.2.2.1 = 0 ∧ r.2.1 = 0) ∨ (q.2.2.1 ≠ 0 ∧ r.2.1 = 1)) := by
    unfold f_132
    refine gQ_if (fun e => gQ_ret (Or.inl ⟨by omega, rfl⟩)) (fun e => ?_)
    exact gQ_v0 (A := fun _ => True) (fun _ _ => trivial) (fun s1 _ => gQ_v0 (A := fun _ => True) (fun _ _ => trivial) (fun s3 _ => gQ_ret (Or.inr ⟨by omega, rfl⟩)))
  exact gT_mono (gT_and (d_132 hp h t11) w) (fun r hr => ⟨hr.1.1, hr.2, hr.1.2.2⟩)
theorem b_262 (h : J (-1, q) s) : gT (f_262 217 s) (fun r => r.1 = 1 ∧ ((q.2.2.2 = 0 ∧ r.2.1 = 0) ∨ (q.2.2.2 ≠ 0 ∧ r.2.1 = 1)) ∧ J (-1, q) r.2.2.2) := by
  have hp : (-1 : Int) ≤ -1 ∧ (-1 : Int) ≤ 0 := by decide
  have g : gI s 217 3 = q.2.2.2 := h.2.2.2.2.2
  have w : gQ (f_262 217 s) (fun r => (q.2.2.2 = 0 ∧ r.2.1 = 0) ∨ (q.2.2.2 ≠ 0 ∧ r.2.1 = 1)) := by
    unfold f_262
    extract_lets s1
    have e1 : gI s1 217 3 = gI s 217 3 := rd_k (a := 217) (k := 3) (show s1 = gw s 217 0 0 from rfl) (by decide)
    refine gQ_if (fun e => gQ_ret (Or.inl ⟨by omega, rfl⟩)) (fun e => ?_)
    refine gQ_loop (fun _ => True) (fun y _ => ?_) trivial
    obtain ⟨x0, x1, u⟩ := y
    show gQ (sb_262_16 x0 x1 u) _
    unfold sb_262_16
    exact gQ_ite (gQ_chk (gQ_chk (gQ_ret trivial))) (gQ_map (gQ_ret (Or.inr ⟨by omega, rfl⟩)))
  exact gT_mono (gT_and (d_262 hp h t12) w) (fun r hr => ⟨hr.1.1, hr.2, hr.1.2.2⟩)
end Bk2
