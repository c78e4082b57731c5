/-! the class's image: what is copied -/
section Ci
variable {s : gS}
theorem k0_b : k0 9 = 0 ∧ k0 36 = 0 ∧ k0 54 = 0 ∧ k0 15 = 2 ∧ k0 42 = 2 ∧ k0 60 = 2 := by decide +kernel
theorem RF_bc {a0 a1 : Nat} {s' : gS} (h : RF s) (t0 : k0 a0 = 0) (hb : BC a0 a1 s s') : RF s' := fun a_l k_l ha_l hn => by
  rw [hb.1.2.2 a_l k_l, if_neg (fun z_l => hn ⟨by rw [z_l.1]; exact t0, z_l.2⟩)]
  exact h a_l k_l ha_l hn
/-- a book and a court with its log are copied -/
theorem x_cp {B C D E : Nat} (hg : RF s) (tB : T 0 B) (tC : T 2 C) (tD : T 0 D) (tE : T 2 E) (n1 : B ≠ D) (n2 : C ≠ E) {F : gS → Option gO} {P : gO → Prop} (k : ∀ t u, BC B D s t → FC C E t u → gQ (F u) P) : gQ ((f_1 B D s).bind (gv0 (fun s1 => (f_22 C E s1).bind (gv0 F)))) P := by
  refine gQ_v0 (A := fun z_l => BC B D s z_l) (fun r_l hr => (gQ_T (s_1 hg tB tD n1) r_l hr).2) (fun s1 h1 => ?_)
  refine gQ_v0 (A := fun z_l => FC C E s1 z_l) (fun r_l hr => (gQ_T (s_22 (RF_bc hg tB.2 h1) tC tE n2) r_l hr).2) (fun s3_l h3 => ?_)
  exact k s1 s3_l h1 h3
end Ci
