def es_exc (n : Nat) : String := match n with
  | 0 => "java/lang/IllegalArgumentException"
  | 1 => "java/lang/UnsupportedOperationException"
  | 2 => "java/util/NoSuchElementException"
  | 3 => "java/lang/IndexOutOfBoundsException"
  | _ => "java/lang/IllegalStateException"
/-- the row of a table that takes a thrown one: the class of a row by its number -/
def es_hdl (ct : Nat → Nat) : List (Nat × Nat × Nat × Nat) → Nat → Nat → Option Nat
  | [], _, _ => none
  | q :: t, pc, x => bif Nat.ble q.1 pc && Nat.blt pc q.2.1 then (bif Nat.beq (ct q.2.2.2) x then some q.2.2.1 else es_hdl ct t pc x) else es_hdl ct t pc x
def es_ct (n : Nat) : Nat := match n with
  | 13 => 0
  | 15 => 1
  | 24 => 3
  | 26 => 2
  | 42 => 4
  | _ => 99
def es_n6 (v : es_V) : Bool := !(Nat.beq v.1 1 && Nat.beq v.2 6)
def es_n6l (L : List (Nat × es_V)) : Bool := L.all (fun q => es_n6 q.2)
def es_n6h (AH : List es_O) : Bool := AH.all (fun o => es_n6l o.2.2)
def es_fg1 (AH : List es_O) (a k : Nat) : Option (List es_O) := match AH[a]? with
  | some (0, ci, c) => match es_get c k with
    | some v => bif es_ti v then some (AH.set a (0, ci, es_set c k (6, 0))) else none
    | none => none
  | some (2, n, c) => bif es_ti (es_ad 0 c k) then some (AH.set a (2, n, es_set c k (6, 0))) else none
  | _ => none
def es_fg (AH : List es_O) : List (Nat × Nat) → Option (List es_O)
  | [] => some AH
  | q :: t => match es_fg1 AH q.1 q.2 with
    | some AH' => es_fg AH' t
    | none => none
def es_prs : List Nat → List (Nat × Nat)
  | a :: b :: t => (a, b) :: es_prs t
  | _ => []
def es_isl (ins : Instr) (i : Nat) : Bool := match ins with
  | .iload_n k => Nat.beq k i
  | .iload k => Nat.beq k i
  | _ => false
def es_teq (pc : Nat) (off : Int) (t : Nat) : Bool := match es_to pc off with
  | some x => Nat.beq x t
  | none => false
def es_nl (L : es_L) (i : Nat) : Bool := match i with
  | 0 => true
  | j + 1 => match es_get L j with
    | some w => !Nat.beq w.1 2
    | none => true
def es_subl (L Lb : es_L) : Bool := L.all (fun q => match es_get Lb q.1 with
  | some v => es_veq v q.2
  | none => false)
def es_is6 (v : Option es_V) : Bool := match v with
  | some v => es_veq v (1, 6)
  | none => false
def es_ise (v : Option es_V) (w : es_V) : Bool := match v with
  | some v => es_veq v w
  | none => false
def es_lr1 (T : es_M) (nl h1 h2 : Nat) : Bool := match es_at (es_tab T) h1 with
  | some e => es_isl e.2.1 nl && Nat.beq (h1 + es_len e.2.1) h2
  | none => false
def es_lr2 (T : es_M) (h2 ex : Nat) : Bool := match es_at (es_tab T) h2 with
  | some e => match e.2.1 with
    | .if_icmp .ge off => es_teq h2 off ex
    | _ => false
  | none => false
def es_lr3 (T : es_M) (i q : Nat) : Bool := match es_at (es_tab T) q with
  | some e => match e.2.1 with
    | .iinc k n => Nat.beq k i && decide (n = 1)
    | _ => false
  | none => false
def es_lr4 (T : es_M) (q h : Nat) : Bool := match es_at (es_tab T) (q + 3) with
  | some e => match e.2.1 with
    | .goto off => es_teq (q + 3) off h
    | _ => false
  | none => false
def es_lpc (T : es_M) (SL : Nat) (ins : Instr) (h i nl h1 h2 q ex : Nat) (Lx : es_L) (AHg : List es_O) (F : es_F) (vi vn : es_V) : Bool :=
  (((es_isl ins i && Nat.beq (h + es_len ins) h1) && (es_ti vi && Nat.ble vn.1 1)) && ((es_n6l Lx && es_n6h AHg) && ((Nat.ble F.length 6 && Nat.ble SL 6) && (es_nl Lx i && Nat.blt i (es_mL T))))) && (((es_ise (es_get Lx nl) vn && !Nat.beq nl i) && es_lr1 T nl h1 h2) && (es_lr2 T h2 ex && (es_lr3 T i q && es_lr4 T q h)))
def es_nil (S : List es_V) : Bool := match S with
  | [] => true
  | _ => false
def es_feq (A : Option (List es_O)) (B : List es_O) : Bool := match A with
  | some A => decide (A = B)
  | none => false
def es_lpe (q i : Nat) (Lx : es_L) (AHg : List es_O) (fl : List (Nat × Nat)) (cs ss : Nat) (E : es_E) : Bool :=
  ((Nat.beq E.1 0 && Nat.beq E.2.1 q) && (es_nil E.2.2.2.1 && (es_subl Lx E.2.2.1 && es_is6 (es_get E.2.2.1 i)))) && ((Nat.beq E.2.2.2.2.2.2.1 cs && Nat.beq E.2.2.2.2.2.2.2 ss) && es_feq (es_fg E.2.2.2.2.1 fl) AHg)
/-- a loop that counts: its body once, at a counter that is any number -/
def es_lp (T : es_M) (SL : Nat) (ih : Nat → es_K → Option (List es_E)) (M : Nat) (ins : Instr) (h i nl h1 h2 q ex : Nat) (fl : List (Nat × Nat)) (L : es_L) (S : List es_V) (AH : List es_O) (F : es_F) (cs ss : Nat) : Option (List es_E) := match S with
  | _ :: _ => none
  | [] => match es_get L i with
    | none => none
    | some vi => match es_get L nl with
      | none => none
      | some vn => match es_fg AH fl with
        | none => none
        | some AHg => bif es_lpc T SL ins h i nl h1 h2 q ex (es_del L i) AHg F vi vn then
            (match ih M (h2 + 3, es_set (es_del L i) i (1, 6), [], AHg, F, cs, ss) with
            | none => none
            | some ends => bif ends.all (es_lpe q i (es_del L i) AHg fl cs ss) then ih M (ex, es_del L i, [], AHg, F, cs, ss) else none) else none
section Step
variable (ME : Nat → es_M) (SL : Nat)
/-- behind a call: what each end of the callee leads to -/
def es_aft (ih : Nat → es_K → Option (List es_E)) (M : Nat) (pc : Nat) (L : es_L) (S : List es_V) (cs ss : Nat) (lf : es_Lf) : Option (List es_E) := match lf with
  | (0, _, AH, F) => ih M (pc + 3, L, S, AH, F, cs, ss)
  | (1, v, AH, F) => ih M (pc + 3, L, v :: S, AH, F, cs, ss)
  | (x + 2, _, AH, F) => match es_hh (ME M) with
    | [] => some [(x + 1, pc, L, S, AH, F, cs, ss)]
    | hh => match es_hdl es_ct hh pc x with
      | some h => bif Nat.blt x 5 then ih M (h, L, [(7, 0)], AH, F, cs, ss) else none
      | none => none
/-- a call of the method M' with the arguments vs: its ends -/
def es_inv1 (ih : Nat → es_K → Option (List es_E)) (M M' : Nat) (vs : List es_V) (rest : List es_V) (AH : List es_O) (F : es_F) (cs ss : Nat) : Option (List es_Lf) :=
  bif (Nat.ble (es_cts vs) (es_mL (ME M')) && Nat.ble (es_cts rest) 8) && ((Nat.blt (es_rf (ME M')) (es_rf (ME M)) && Nat.ble (19 + es_mL (ME M') + es_lo (ME M')) (es_lo (ME M))) && (Nat.ble (cs + es_mc (ME M')) (es_mc (ME M)) && Nat.ble (ss + es_ms (ME M')) (es_ms (ME M)))) then
    (match ih M' (0, es_al 0 vs, [], AH, F, 0, 0) with
    | some ends => match es_cat (fun E => (es_leaf (ME M') E).map (fun x => [x])) ends with
      | some lfs => some (es_mrg lfs)
      | none => none
    | none => none) else none
def es_nothr (l : List es_Lf) : Bool := l.all (fun x => Nat.blt x.1 2)
def es_copy (t : Nat) (cs cd : List (Nat × es_V)) (sp dp : Nat) : Nat → List (Nat × es_V)
  | 0 => cd
  | n + 1 => es_aset t (es_copy t cs cd sp dp n) (dp + n) (es_ad t cs (sp + n))
def es_tn (ih : Nat → es_K → Option (List es_E)) (M pc : Nat) (L : es_L) (S' : List es_V) (AH : List es_O) (F : es_F) (cs ss : Nat) (dflt lo hi : Int) (q : Nat × Nat) : Option (List es_E) := match es_to pc dflt with
  | some t => bif decide ((q.2 : Int) - 2147483648 < lo) || decide (hi < (q.1 : Int) - 2147483648) then ih M (t, L, S', AH, F, cs, ss) else none
  | none => none
def es_sv (ih : Nat → es_K → Option (List es_E)) (M M' n ci pc : Nat) (L : es_L) (S : List es_V) (AH : List es_O) (F : es_F) (cs ss : Nat) : Option (List es_E) := match S.drop n with
  | o :: S' => match es_obj AH ci o with
    | some _ => match es_inv1 ME ih M M' (o :: (S.take n).reverse) S' AH F cs ss with
      | some lfs => es_cat (es_aft ME ih M pc L S' (cs + es_mc (ME M')) (ss + es_ms (ME M'))) lfs
      | none => none
    | none => none
  | _ => none
def es_ss (ih : Nat → es_K → Option (List es_E)) (M M' n pc : Nat) (L : es_L) (S : List es_V) (AH : List es_O) (F : es_F) (cs ss : Nat) : Option (List es_E) := bif Nat.ble n S.length then (match es_inv1 ME ih M M' (S.take n).reverse (S.drop n) AH F cs ss with
  | some lfs => es_cat (es_aft ME ih M pc L (S.drop n) (cs + es_mc (ME M')) (ss + es_ms (ME M'))) lfs
  | none => none) else none
def es_sc (ih : Nat → es_K → Option (List es_E)) (M pc : Nat) (L : es_L) (S : List es_V) (AH : List es_O) (F : es_F) (cs ss : Nat) : Option (List es_E) := match S with
  | vn :: vd :: d :: vs :: s :: S' => match es_ary AH s, es_ary AH d with
    | some (ts, ns, c1), some (td, nd, c2) => match es_kn F vs, es_kn F vd, es_kn F vn with
      | some sp, some dp, some n => bif ((Nat.beq ts 0 && Nat.beq td 0) && ((Nat.ble (sp + n) ns && Nat.ble (dp + n) nd) && (Nat.blt 0 (es_rf (ME M)) && Nat.ble 200 (es_lo (ME M))))) && ((!(Nat.beq s.2 d.2) && c1.all (fun x => es_ti x.2)) && Nat.ble (es_cts S') 8) then ih M (pc + 3, L, S', AH.set d.2 (2, nd, es_copy 0 c1 c2 sp dp n), F, cs, ss) else none
      | _, _, _ => none
    | _, _ => none
  | _ => none
def es_smm (f : Int32 → Int32 → Int32) (ih : Nat → es_K → Option (List es_E)) (M pc : Nat) (L : es_L) (S : List es_V) (AH : List es_O) (F : es_F) (cs ss : Nat) : Option (List es_E) := match S with
  | w :: v :: S' => bif (es_ti v && es_ti w) && (((Nat.blt 0 (es_rf (ME M)) && Nat.ble 200 (es_lo (ME M))) && Nat.ble (es_cts S') 8) && (Nat.ble cs (es_mc (ME M)) && Nat.ble ss (es_ms (ME M)))) then ih M (pc + 3, L, es_bin f F v w :: S', AH, F, cs, ss) else none
  | _ => none
def es_si (ih : Nat → es_K → Option (List es_E)) (M M' n pc : Nat) (L : es_L) (S : List es_V) (AH : List es_O) (F : es_F) (cs ss : Nat) : Option (List es_E) := match S.drop n with
  | o :: S' => bif Nat.beq o.1 3 then (match es_inv1 ME ih M M' (o :: (S.take n).reverse) S' AH F cs ss with
      | some lfs => bif es_nothr lfs then es_cat (es_aft ME ih M pc L S' (cs + es_mc (ME M')) (ss + es_ms (ME M'))) lfs else none
      | none => none) else none
  | _ => none
def es_so (ih : Nat → es_K → Option (List es_E)) (M pc : Nat) (L : es_L) (S : List es_V) (AH : List es_O) (F : es_F) (cs ss : Nat) : Option (List es_E) := match S with
  | o :: S' => bif Nat.beq o.1 3 && (Nat.blt 0 (es_rf (ME M)) && Nat.ble (es_cts S' + 12) (es_lo (ME M))) then ih M (pc + 3, L, S', AH, F, cs, ss) else none
  | _ => none
def es_step (ih : Nat → es_K → Option (List es_E)) (M : Nat) (K : es_K) : Option (List es_E) := match K with
  | (pc, L, S, AH, F, cs, ss) => match es_at (es_tab (ME M)) pc with
    | none => none
    | some e => match e.2.2.2 with
      | 200 :: _ => some [(0, K)]
      | 100 :: _ => some [(0, K)]
      | 300 :: i :: nl :: h1 :: h2 :: q :: ex :: fl => es_lp (ME M) SL ih M e.2.1 pc i nl h1 h2 q ex (es_prs fl) L S AH F cs ss
      | _ => match es_pure (es_mL (ME M)) e.2.1 pc L S F with
        | some (pc', L', S') => ih M (pc', L', S', AH, F, cs, ss)
        | none => match es_hs SL (ME M) e K with
          | some K' => ih M K'
          | none => match e.2.1 with
            | .return_ | .ireturn | .lreturn | .areturn => some [(0, K)]
            | .ifCond op off => match S, es_to pc off with
              | v :: S', some t => bif es_ti v then (match es_cat (fun f => ih M (t, L, S', AH, f, cs, ss)) (es_br F op v (0, 0)) with
                  | some x => match es_cat (fun f => ih M (pc + 3, L, S', AH, f, cs, ss)) (es_br F (es_ng op) v (0, 0)) with
                    | some y => some (x ++ y)
                    | none => none
                  | none => none) else none
              | _, _ => none
            | .if_icmp op off => match S, es_to pc off with
              | w :: v :: S', some t => bif es_ti v && es_ti w then (match es_cat (fun f => ih M (t, L, S', AH, f, cs, ss)) (es_br F op v w) with
                  | some x => match es_cat (fun f => ih M (pc + 3, L, S', AH, f, cs, ss)) (es_br F (es_ng op) v w) with
                    | some y => some (x ++ y)
                    | none => none
                  | none => none) else none
              | _, _ => none
            | .tableswitch dflt lo hi offs => match S with
              | v :: S' => match es_kn F v with
                | some n => match es_to pc (bif decide ((nI n).toInt < lo) || decide (hi < (nI n).toInt) then dflt else (offs[((nI n).toInt - lo).toNat]?).getD 0) with
                  | some t => bif (decide ((nI n).toInt < lo) || decide (hi < (nI n).toInt)) || decide (((nI n).toInt - lo).toNat < offs.size) then ih M (t, L, S', AH, F, cs, ss) else none
                  | none => none
                | none => match v.1, F[v.2]? with
                  | 1, some q => es_tn ih M pc L S' AH F cs ss dflt lo hi q
                  | _, _ => none
              | _ => none
            | .invokevirtual _ => match e.2.2.2 with
              | 1 :: M' :: n :: ci :: _ => es_sv ME ih M M' n ci pc L S AH F cs ss
              | _ => none
            | .invokestatic _ => match e.2.2.2 with
              | 2 :: M' :: n :: _ => es_ss ME ih M M' n pc L S AH F cs ss
              | 4 :: _ => es_sc ME ih M pc L S AH F cs ss
              | 5 :: _ => es_smm ME (fun x y => if y < x then y else x) ih M pc L S AH F cs ss
              | 6 :: _ => es_smm ME (fun x y => if x < y then y else x) ih M pc L S AH F cs ss
              | _ => none
            | .invokespecial _ => match e.2.2.2 with
              | 7 :: M' :: n :: _ => es_si ME ih M M' n pc L S AH F cs ss
              | 9 :: _ => es_so ME ih M pc L S AH F cs ss
              | _ => none
            | _ => none
noncomputable def es_run : Nat → Nat → es_K → Option (List es_E) := fun n => Nat.rec (motive := fun _ => Nat → es_K → Option (List es_E)) (fun _ _ => none) (fun _ ih M K => es_step ME SL ih M K) n
theorem es_run_z (M : Nat) (K : es_K) : es_run ME SL 0 M K = none := rfl
theorem es_run_s (n M : Nat) (K : es_K) : es_run ME SL (n + 1) M K = es_step ME SL (es_run ME SL n) M K := rfl
end Step
