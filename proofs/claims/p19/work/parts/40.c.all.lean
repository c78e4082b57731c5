section
noncomputable def st2 (n : Nat) : Int := if n = 2 then 1 else 0
section Ge
variable {s t : gS} {p : gP} {a1 a2 v : Int}
theorem gand1 {x : Int} : gand x 1 = 0 ∨ gand x 1 = 1 := by
  have h_l := gand_le (x := x) (m := 1) (by decide) (by decide)
  omega
end Ge

end
section
/-! mates -/
section Ma
variable {s t : gS} {p : gP}
end Ma

end
section
section Sp
variable {s u : gS} {p : gP} {m T a1 a2 : Int} {n : Nat}
end Sp

end
section
/-! slips, fewest, cheapest -/
section Se
variable {s u : gS} {p : gP} {m T a1 a2 : Int} {n : Nat}
end Se

end
section
/-! fewest, cheapest -/
section Le
variable {s u : gS} {p : gP} {m T a1 a2 : Int} {n : Nat}
end Le

end
