def es_opn (n : Nat) : es_Op := bif Nat.ble n 2 then (bif Nat.beq n 0 then .eq else bif Nat.beq n 1 then .ne else .lt) else (bif Nat.beq n 3 then .ge else bif Nat.beq n 4 then .gt else .le)
abbrev es_C : Type := Nat × Nat × Nat
noncomputable def es_fi2 (l : List (Nat × es_C)) (pc : Nat) : Option es_C := @List.rec (Nat × es_C) (fun _ => Option es_C) none (fun q _ ih => bif Nat.beq q.1 pc then some q.2 else ih) l
noncomputable def es_at2 (l : List (Nat × List (Nat × es_C))) (pc : Nat) : Option es_C := @List.rec (Nat × List (Nat × es_C)) (fun _ => Option es_C) none (fun q _ ih => bif Nat.blt pc q.1 then es_fi2 q.2 pc else ih) l
def es_fa (c a n nL pc : Nat) (L : es_L) (S : List es_V) : Option (Nat × es_L × List es_V) := bif Nat.ble c 2 then (bif Nat.beq c 1 then es_ld es_ti a n pc L S else es_ld es_tr a n pc L S) else (bif Nat.beq c 3 then some (pc + n, L, (0, a) :: S) else es_sto es_ti nL a n pc L S)
def es_finc (a n nL pc : Nat) (L : es_L) (S : List es_V) (F : es_F) : Option (Nat × es_L × List es_V) := match es_get L a with
  | some v => bif es_ti v && Nat.blt a nL then some (pc + 3, es_st L a (es_un (fun x => x + nI n) F v), S) else none
  | none => none
def es_fb (c a n nL pc : Nat) (L : es_L) (S : List es_V) (F : es_F) : Option (Nat × es_L × List es_V) := bif Nat.beq c 5 then es_finc a n nL pc L S F else some (a, L, S)
def es_fc1 (c pc : Nat) (L : es_L) (S : List es_V) (F : es_F) : Option (Nat × es_L × List es_V) := bif Nat.ble c 8 then (bif Nat.beq c 7 then es_i2 (fun x y => x + y) pc L S F else es_i2 (fun x y => x - y) pc L S F) else (bif Nat.beq c 9 then es_i2 (fun x y => x * y) pc L S F else es_i2 (fun x y => x &&& y) pc L S F)
def es_fc2 (c pc : Nat) (L : es_L) (S : List es_V) (F : es_F) : Option (Nat × es_L × List es_V) := bif Nat.ble c 12 then (bif Nat.beq c 11 then es_i2 (fun x y => x ||| y) pc L S F else es_i2 (fun x y => x <<< (y &&& 31)) pc L S F) else (bif Nat.beq c 13 then es_i2 (fun x y => x >>> (y &&& 31)) pc L S F else es_d2 (fun x y => x - x / y * y) pc L S F)
def es_fp (c a n nL pc : Nat) (L : es_L) (S : List es_V) (F : es_F) : Option (Nat × es_L × List es_V) := bif Nat.ble c 6 then (bif Nat.ble c 4 then es_fa c a n nL pc L S else es_fb c a n nL pc L S F) else (bif Nat.ble c 10 then es_fc1 c pc L S F else es_fc2 c pc L S F)
def es_fgf (ci k pc : Nat) (L : es_L) (S : List es_V) (AH : List es_O) (F : es_F) (cs ss : Nat) : Option es_K := match S with
  | v :: S' => match es_obj AH ci v with
    | some c => match es_get c k with
      | some w => some (pc + 3, L, w :: S', AH, F, cs, ss)
      | none => none
    | none => none
  | _ => none
def es_fld (pc : Nat) (L : es_L) (S : List es_V) (AH : List es_O) (F : es_F) (cs ss : Nat) : Option es_K := match S with
  | j :: a :: S' => match es_kn F j with
    | some jn => bif Nat.beq a.1 5 then none else match es_ary AH a with
      | some (t, n, c) => bif Nat.beq t 0 && Nat.blt jn n then some (pc + 1, L, es_ad t c jn :: S', AH, F, cs, ss) else none
      | none => none
    | none => none
  | _ => none
def es_fst (pc : Nat) (L : es_L) (S : List es_V) (AH : List es_O) (F : es_F) (cs ss : Nat) : Option es_K := match S with
  | v :: j :: a :: S' => match es_ary AH a, es_kn F j with
    | some (t, n, c), some jn => bif (Nat.beq t 0 && Nat.blt jn n) && es_sfit AH F t v then some (pc + 1, L, S', es_hset AH a.2 t n c jn v, F, cs, ss) else none
    | _, _ => none
  | _ => none
def es_fh (c a n pc : Nat) (L : es_L) (S : List es_V) (AH : List es_O) (F : es_F) (cs ss : Nat) : Option es_K := bif Nat.beq c 18 then es_fgf a n pc L S AH F cs ss else (bif Nat.beq c 19 then es_fld pc L S AH F cs ss else es_fst pc L S AH F cs ss)
def es_two (ih : Nat → es_K → Option (List es_E)) (M t f : Nat) (L : es_L) (S : List es_V) (AH : List es_O) (cs ss : Nat) (T1 F1 : List es_F) : Option (List es_E) := match es_cat (fun f => ih M (t, L, S, AH, f, cs, ss)) T1 with
  | some x => match es_cat (fun g => ih M (f, L, S, AH, g, cs, ss)) F1 with
    | some y => some (x ++ y)
    | none => none
  | none => none
def es_fi0 (ih : Nat → es_K → Option (List es_E)) (M : Nat) (op : es_Op) (a pc : Nat) (L : es_L) (S : List es_V) (AH : List es_O) (F : es_F) (cs ss : Nat) : Option (List es_E) := match S with
  | v :: S' => bif es_ti v then es_two ih M a (pc + 3) L S' AH cs ss (es_br F op v (0, 0)) (es_br F (es_ng op) v (0, 0)) else none
  | _ => none
def es_fi1 (ih : Nat → es_K → Option (List es_E)) (M : Nat) (op : es_Op) (a pc : Nat) (L : es_L) (S : List es_V) (AH : List es_O) (F : es_F) (cs ss : Nat) : Option (List es_E) := match S with
  | w :: v :: S' => bif es_ti v && es_ti w then es_two ih M a (pc + 3) L S' AH cs ss (es_br F op v w) (es_br F (es_ng op) v w) else none
  | _ => none
def es_fj (ih : Nat → es_K → Option (List es_E)) (M c a n pc : Nat) (L : es_L) (S : List es_V) (AH : List es_O) (F : es_F) (cs ss : Nat) : Option (List es_E) := bif Nat.beq c 15 then es_fi0 ih M (es_opn n) a pc L S AH F cs ss else (bif Nat.beq c 16 then es_fi1 ih M (es_opn n) a pc L S AH F cs ss else some [(0, pc, L, S, AH, F, cs, ss)])
def es_gp (ih : Nat → es_K → Option (List es_E)) (M : Nat) (AH : List es_O) (F : es_F) (cs ss : Nat) (r : Option (Nat × es_L × List es_V)) : Option (List es_E) := match r with
  | some (pc', L', S') => ih M (pc', L', S', AH, F, cs, ss)
  | none => none
def es_gh (ih : Nat → es_K → Option (List es_E)) (M : Nat) (r : Option es_K) : Option (List es_E) := match r with
  | some K' => ih M K'
  | none => none
def es_fast (ih : Nat → es_K → Option (List es_E)) (M c a n nL pc : Nat) (L : es_L) (S : List es_V) (AH : List es_O) (F : es_F) (cs ss : Nat) : Option (List es_E) := bif Nat.ble c 14 then es_gp ih M AH F cs ss (es_fp c a n nL pc L S F) else (bif Nat.ble c 17 then es_fj ih M c a n pc L S AH F cs ss else es_gh ih M (es_fh c a n pc L S AH F cs ss))
section Run2
variable (ME : Nat → es_M) (strs : List (String × Nat × String)) (CT : Nat → List (Nat × List (Nat × es_C))) (SL : Nat)
noncomputable def es_step2 (ih : Nat → es_K → Option (List es_E)) (M : Nat) (K : es_K) : Option (List es_E) := match K with
  | (pc, L, S, AH, F, cs, ss) => match es_at2 (CT M) pc with
    | some q => es_fast ih M q.1 q.2.1 q.2.2 (es_mL (ME M)) pc L S AH F cs ss
    | none => es_step ME strs SL ih M (pc, L, S, AH, F, cs, ss)
noncomputable def es_run2 : Nat → Nat → es_K → Option (List es_E) := fun n => Nat.rec (motive := fun _ => Nat → es_K → Option (List es_E)) (fun _ _ => none) (fun _ ih M K => es_step2 ME strs CT SL ih M K) n
theorem es_run2_z (M : Nat) (K : es_K) : es_run2 ME strs CT SL 0 M K = none := rfl
theorem es_run2_s (n M : Nat) (K : es_K) : es_run2 ME strs CT SL (n + 1) M K = es_step2 ME strs CT SL (es_run2 ME strs CT SL n) M K := rfl
end Run2
