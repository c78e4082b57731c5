section
noncomputable def st4 (n : Nat) : Int := if n = 4 then 1 else 0
section Qa
variable {s t u g : gS} {p : gP} {a1 a2 a3 v : Int} {a k i j n : Nat} {F : gS → Option gO} {st : Nat → Int}
theorem r13 (h : Rx s) : 0 ≤ gI s 218 13 ∧ gI s 218 13 ≤ 60 := by
  have h1 := h.1.2.2.1
  rw [Nat.zero_add] at h1
  exact h1
end Qa

end
section
section Qb
variable {s t u g : gS} {p : gP} {a1 a2 a3 v d lu : Int} {a k i j n m : Nat} {V W : Nat → Int} {T : (Nat → Int) → Int}
end Qb
section Qc
variable {s t u g : gS} {p : gP} {a1 a2 a3 v d lu : Int} {a k i j n m : Nat} {V W : Nat → Int} {T : (Nat → Int) → Int}
end Qc

end
section
section Qd
variable {s t u g : gS} {p : gP} {a1 a2 a3 v d lu : Int} {a k i j n m : Nat} {V W : Nat → Int} {T : (Nat → Int) → Int}
end Qd

end
section
section Qe
variable {s t u g : gS} {p : gP} {a1 a2 a3 v d lu x y : Int} {a k i j n m : Nat} {V W : Nat → Int} {T : (Nat → Int) → Int} {H : Nat → Prop}
end Qe

end
section
/-! led: entries of the log; count; step -/
noncomputable def sm (f : Nat → Int) : Nat → Int
  | 0 => 0
  | n + 1 => sm f n + f n
section Qf
variable {s t u g : gS} {p : gP} {a1 a2 a3 v d lu x y : Int} {a k i j n m : Nat} {V W : Nat → Int} {T : (Nat → Int) → Int}
end Qf

end
section
section Qg
variable {s t u g z : gS} {p : gP} {a1 a2 a3 v d lu x y : Int} {a i j n m : Nat} {k c w : Int} {V W : Nat → Int}
end Qg

end
section
section Qh
variable {s t u g : gS} {p : gP} {a1 a2 a3 v d lu x y : Int} {a k i j n m : Nat} {V W : Nat → Int}
end Qh

end
section
section Qi
variable {s t u g z : gS} {p : gP} {a1 a2 a3 v d lu x y : Int} {a k i j n m : Nat} {V W : Nat → Int} {T : (Nat → Int) → Int}
end Qi

end
section
section Qj
variable {s t u g z : gS} {p : gP} {a1 a2 a3 v d lu x y : Int} {a k i j n m : Nat} {V W P : Nat → Int}
end Qj

end
section
section Qk
variable {s t u g z : gS} {p : gP} {a1 a2 a3 v d lu x y M : Int} {a b k i j n m N : Nat} {V W P : Nat → Int}
end Qk

end
