def es_K0 (pc : Nat) (F : es_F) : es_K := (pc, es_L0, [], es_H0, F, 232, 47168)
def es_good1 (r : Option (List es_E)) : Bool := match r with
  | none => false
  | some l => l.all (fun E => Nat.beq E.1 0)
theorem es_op2 : es_good1 (es_run2 es_ME es_CT 6 100000 194 (es_K0 342 es_F0)) = true := by decide +kernel
