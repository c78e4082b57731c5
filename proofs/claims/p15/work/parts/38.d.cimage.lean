/-! the class's image: what is copied -/
section Ci
variable {s : gS}
theorem k0_b : k0 9 = 0 ∧ k0 36 = 0 ∧ k0 54 = 0 ∧ k0 15 = 2 ∧ k0 42 = 2 ∧ k0 60 = 2 := by decide +kernel
theorem RF_bc {a0 a1 : Nat} {s' : gS} (h : RF s) (t0 : k0 a0 = 0) (hb : BC a0 a1 s s') : RF s' := fun a_l k_l ha_l hn => by
  rw [hb.1.2.2 a_l k_l, if_neg (fun z_l => hn ⟨by rw [z_l.1]; exact t0, z_l.2⟩)]
  exact h a_l k_l ha_l hn
end Ci
