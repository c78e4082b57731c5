def es_FF (a1 b1 a2 b2 : Nat) : es_F := [(0, 4294967295), (a1, b1), (a2, b2), (0, 4294967295), (0, 4294967295), (0, 4294967295)]
def es_K0 (pc : Nat) (F : es_F) : es_K := (pc, es_L0, [], es_H0, F, 232, 47168)
def es_isir (o : Option es_I) : Bool := match o with
  | some e => match e.2.1 with
    | .ireturn => true
    | _ => false
  | none => false
def es_one (S : List es_V) : Bool := match S with
  | [v] => es_veq v (0, 1)
  | _ => false
noncomputable def es_fin (E : es_E) : Bool := ((Nat.beq E.1 0 && es_one E.2.2.2.1) && es_isir (es_at (es_tab (es_ME 194)) E.2.1)) && (Nat.ble E.2.2.2.2.2.2.1 600002 && Nat.ble E.2.2.2.2.2.2.2 7302232)
noncomputable def es_okb (r : Option (List es_E)) : Bool := match r with
  | some l => l.all es_fin
  | none => false
theorem es_s0 : es_okb (es_run2 es_ME es_CT 0 100000 194 (0, [(0, (5, 0))], [], [], es_F0, 0, 0)) = true := by decide +kernel
theorem es_s1 : es_okb (es_run2 es_ME es_CT 1 100000 194 (0, [(0, (5, 0))], [], [], es_F0, 0, 0)) = true := by decide +kernel
theorem es_s2 : es_okb (es_run2 es_ME es_CT 2 100000 194 (0, [(0, (5, 0))], [], [], es_F0, 0, 0)) = true := by decide +kernel
theorem es_s3 : es_okb (es_run2 es_ME es_CT 3 100000 194 (0, [(0, (5, 0))], [], [], es_F0, 0, 0)) = true := by decide +kernel
theorem es_s4 : es_okb (es_run2 es_ME es_CT 4 100000 194 (0, [(0, (5, 0))], [], [], es_F0, 0, 0)) = true := by decide +kernel
theorem es_s5 : es_okb (es_run2 es_ME es_CT 5 100000 194 (0, [(0, (5, 0))], [], [], es_F0, 0, 0)) = true := by decide +kernel
