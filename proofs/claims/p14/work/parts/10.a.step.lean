def es_exc (n : Nat) : String := match n with
  | 0 => "java/lang/IllegalArgumentException"
  | 1 => "java/lang/UnsupportedOperationException"
  | 2 => "java/util/NoSuchElementException"
  | 3 => "java/lang/IndexOutOfBoundsException"
  | _ => "java/lang/IllegalStateException"
/-- the row of a table that takes a thrown one: the class of a row by its number -/
def es_hdl (ct : Nat → Nat) : List (Nat × Nat × Nat × Nat) → Nat → Nat → Option Nat
  | [], _, _ => none
  | q :: t, pc, x => bif Nat.ble q.1 pc && Nat.blt pc q.2.1 then (bif Nat.beq (ct q.2.2.2) x then some q.2.2.1 else es_hdl ct t pc x) else es_hdl ct t pc x
def es_cal (M M' : Nat) : Nat := M' % 512 + 512 * (M / 512 - 1)
def es_bs (tx : String) : List Nat := tx.toList.map Char.toNat
def es_q1 (strs : List (String × Nat × String)) (pc : Nat) (L : es_L) (S : List es_V) (AH : List es_O) (F : es_F) (cs ss : Nat) : Option es_K := match S with
  | v :: S' => bif Nat.beq v.1 8 && Nat.blt v.2 strs.length then some (pc + 3, L, (9, v.2) :: S', AH, F, cs, ss) else none
  | _ => none
def es_q2 (strs : List (String × Nat × String)) (pc : Nat) (L : es_L) (S : List es_V) (AH : List es_O) (F : es_F) (cs ss : Nat) : Option es_K := match S with
  | v :: S' => bif Nat.beq v.1 8 && Nat.blt v.2 strs.length then some (pc + 3, L, (0, 0) :: S', AH, F, cs, ss) else none
  | _ => none
def es_q3 (strs : List (String × Nat × String)) (pc : Nat) (L : es_L) (S : List es_V) (AH : List es_O) (F : es_F) (cs ss : Nat) : Option es_K := match S with
  | v :: S' => match strs[v.2]? with
    | some q => bif Nat.beq v.1 9 then some (pc + 1, L, (0, (es_bs q.2.2).length) :: S', AH, F, cs, ss) else none
    | none => none
  | _ => none
def es_q4 (strs : List (String × Nat × String)) (pc : Nat) (L : es_L) (S : List es_V) (AH : List es_O) (F : es_F) (cs ss : Nat) : Option es_K := match S with
  | j :: v :: S' => match strs[v.2]?, es_kn F j with
    | some q, some jn => bif Nat.beq v.1 9 && Nat.blt jn (es_bs q.2.2).length then some (pc + 1, L, (0, (es_bs q.2.2).getD jn 0) :: S', AH, F, cs, ss) else none
    | _, _ => none
  | _ => none
/-- a step that speaks of a constant text -/
def es_str (strs : List (String × Nat × String)) (f a len : Nat) (K : es_K) : Option es_K := match K with
  | (pc, L, S, AH, F, cs, ss) => match f with
    | 0 => some (pc + len, L, (8, a) :: S, AH, F, cs, ss)
    | 1 => es_q1 strs pc L S AH F cs ss
    | 2 => es_q2 strs pc L S AH F cs ss
    | 3 => es_q3 strs pc L S AH F cs ss
    | 4 => es_q4 strs pc L S AH F cs ss
    | 5 => some (pc + 3, L, (0, 1) :: S, AH, F, cs, ss)
    | 6 => some (pc + 3, L, (10, 0) :: S, AH, F, cs, ss)
    | _ => none
section Step
variable (ME : Nat → es_M) (strs : List (String × Nat × String)) (SL : Nat)
/-- behind a call: what each end of the callee leads to -/
def es_aft (ih : Nat → es_K → Option (List es_E)) (M : Nat) (pc : Nat) (L : es_L) (S : List es_V) (cs ss : Nat) (lf : es_Lf) : Option (List es_E) := match lf with
  | (0, _, AH, F) => ih M (pc + 3, L, S, AH, F, cs, ss)
  | (1, v, AH, F) => ih M (pc + 3, L, v :: S, AH, F, cs, ss)
  | (x + 2, _, AH, F) => match es_hh (ME M) with
    | [] => some [(x + 1, pc, L, S, AH, F, cs, ss)]
    | hh => match es_hdl es_ct hh pc x with
      | some h => bif Nat.blt x 5 then ih M (h, L, [(7, 0)], AH, F, cs, ss) else none
      | none => none
/-- a call of the method M' with the arguments vs: its ends -/
def es_inv1 (w : Nat) (ih : Nat → es_K → Option (List es_E)) (M M' : Nat) (vs : List es_V) (rest : List es_V) (AH : List es_O) (F : es_F) (cs ss : Nat) : Option (List es_Lf) :=
  bif (Nat.ble (es_cts vs) (es_mL (ME M')) && (Nat.ble (es_cts rest) w && es_cx M')) && ((Nat.blt (es_rf (ME M')) (es_rf (ME M)) && Nat.ble (27 + es_mL (ME M') + es_lo (ME M')) (es_lo (ME M))) && (Nat.ble (cs + es_mc (ME M')) (es_mc (ME M)) && Nat.ble (ss + es_ms (ME M')) (es_ms (ME M)))) then
    (match ih M' (0, es_al 0 vs, [], AH, F, 0, 0) with
    | some ends => match es_cat (fun E => (es_leaf (ME M') E).map (fun x => [x])) ends with
      | some lfs => some lfs
      | none => none
    | none => none) else none
def es_nothr (l : List es_Lf) : Bool := l.all (fun x => Nat.blt x.1 2)
def es_copy (t : Nat) (cs cd : List (Nat × es_V)) (sp dp : Nat) : Nat → List (Nat × es_V)
  | 0 => cd
  | n + 1 => es_aset t (es_copy t cs cd sp dp n) (dp + n) (es_ad t cs (sp + n))
def es_tn (ih : Nat → es_K → Option (List es_E)) (M pc : Nat) (L : es_L) (S' : List es_V) (AH : List es_O) (F : es_F) (cs ss : Nat) (dflt lo hi : Int) (q : Nat × Nat) : Option (List es_E) := match es_to pc dflt with
  | some t => bif decide ((q.2 : Int) - 2147483648 < lo) || decide (hi < (q.1 : Int) - 2147483648) then ih M (t, L, S', AH, F, cs, ss) else none
  | none => none
def es_sv (ih : Nat → es_K → Option (List es_E)) (M M' n ci pc : Nat) (L : es_L) (S : List es_V) (AH : List es_O) (F : es_F) (cs ss : Nat) : Option (List es_E) := match S.drop n with
  | o :: S' => match es_obj AH ci o with
    | some _ => match es_inv1 ME 8 ih M M' (o :: (S.take n).reverse) S' AH F cs ss with
      | some lfs => es_cat (es_aft ME ih M pc L S' (cs + es_mc (ME M')) (ss + es_ms (ME M'))) lfs
      | none => none
    | none => none
  | _ => none
def es_sq (ih : Nat → es_K → Option (List es_E)) (M M' n pc : Nat) (L : es_L) (S : List es_V) (AH : List es_O) (F : es_F) (cs ss : Nat) : Option (List es_E) := match S.drop n with
  | o :: S' => bif Nat.beq o.1 8 && Nat.blt o.2 strs.length then (match es_inv1 ME 8 ih M M' (o :: (S.take n).reverse) S' AH F cs ss with
    | some lfs => es_cat (es_aft ME ih M pc L S' (cs + es_mc (ME M')) (ss + es_ms (ME M'))) lfs
    | none => none) else none
  | _ => none
def es_ss (ih : Nat → es_K → Option (List es_E)) (M M' n pc : Nat) (L : es_L) (S : List es_V) (AH : List es_O) (F : es_F) (cs ss : Nat) : Option (List es_E) := bif Nat.ble n S.length then (match es_inv1 ME (bif (es_hh (ME M')).isEmpty then 16 else 8) ih M M' (S.take n).reverse (S.drop n) AH F cs ss with
  | some lfs => es_cat (es_aft ME ih M pc L (S.drop n) (cs + es_mc (ME M')) (ss + es_ms (ME M'))) lfs
  | none => none) else none
def es_sc (ih : Nat → es_K → Option (List es_E)) (M pc : Nat) (L : es_L) (S : List es_V) (AH : List es_O) (F : es_F) (cs ss : Nat) : Option (List es_E) := match S with
  | vn :: vd :: d :: vs :: s :: S' => match es_ary AH s, es_ary AH d with
    | some (ts, ns, c1), some (td, nd, c2) => match es_kn F vs, es_kn F vd, es_kn F vn with
      | some sp, some dp, some n => bif ((Nat.beq ts 0 && Nat.beq td 0) && ((Nat.ble (sp + n) ns && Nat.ble (dp + n) nd) && (Nat.blt 0 (es_rf (ME M)) && Nat.ble 200 (es_lo (ME M))))) && (c1.all (fun x => es_ti x.2) && Nat.ble (es_cts S') 8) then ih M (pc + 3, L, S', AH.set d.2 (2, nd, es_copy 0 c1 c2 sp dp n), F, cs, ss) else none
      | _, _, _ => none
    | _, _ => none
  | _ => none
def es_smm (f : Int32 → Int32 → Int32) (ih : Nat → es_K → Option (List es_E)) (M pc : Nat) (L : es_L) (S : List es_V) (AH : List es_O) (F : es_F) (cs ss : Nat) : Option (List es_E) := match S with
  | w :: v :: S' => bif (es_ti v && es_ti w) && (((Nat.blt 0 (es_rf (ME M)) && Nat.ble 200 (es_lo (ME M))) && Nat.ble (es_cts S') 8) && (Nat.ble cs (es_mc (ME M)) && Nat.ble ss (es_ms (ME M)))) then ih M (pc + 3, L, es_bin f F v w :: S', AH, F, cs, ss) else none
  | _ => none
def es_si (ih : Nat → es_K → Option (List es_E)) (M M' n pc : Nat) (L : es_L) (S : List es_V) (AH : List es_O) (F : es_F) (cs ss : Nat) : Option (List es_E) := match S.drop n with
  | o :: S' => bif Nat.beq o.1 3 then (match es_inv1 ME 8 ih M M' (o :: (S.take n).reverse) S' AH F cs ss with
      | some lfs => bif es_nothr lfs then es_cat (es_aft ME ih M pc L S' (cs + es_mc (ME M')) (ss + es_ms (ME M'))) lfs else none
      | none => none) else none
  | _ => none
def es_so (ih : Nat → es_K → Option (List es_E)) (M pc : Nat) (L : es_L) (S : List es_V) (AH : List es_O) (F : es_F) (cs ss : Nat) : Option (List es_E) := match S with
  | o :: S' => bif Nat.beq o.1 3 && (Nat.blt 0 (es_rf (ME M)) && Nat.ble (es_cts S' + 12) (es_lo (ME M))) then ih M (pc + 3, L, S', AH, F, cs, ss) else none
  | _ => none
def es_step (ih : Nat → es_K → Option (List es_E)) (M : Nat) (K : es_K) : Option (List es_E) := match K with
  | (pc, L, S, AH, F, cs, ss) => match es_at (es_tab (ME M)) pc with
    | none => none
    | some e => match e.2.2.2 with
      | 200 :: _ => some [(0, K)]
      | 100 :: _ => some [(0, K)]
      | 60 :: f :: a :: _ => match es_str strs f a (es_len e.2.1) K with
        | some K' => ih M K'
        | none => none
      | _ => match es_pure (es_mL (ME M)) e.2.1 pc L S F with
        | some (pc', L', S') => ih M (pc', L', S', AH, F, cs, ss)
        | none => match es_hs SL (ME M) e K with
          | some K' => ih M K'
          | none => match e.2.1 with
            | .return_ | .ireturn | .lreturn | .areturn => some [(0, K)]
            | .ifCond op off => match S, es_to pc off with
              | v :: S', some t => bif es_ti v then (match es_cat (fun f => ih M (t, L, S', AH, f, cs, ss)) (es_br F op v (0, 0)) with
                  | some x => match es_cat (fun f => ih M (pc + 3, L, S', AH, f, cs, ss)) (es_br F (es_ng op) v (0, 0)) with
                    | some y => some (x ++ y)
                    | none => none
                  | none => none) else none
              | _, _ => none
            | .if_icmp op off => match S, es_to pc off with
              | w :: v :: S', some t => bif es_ti v && es_ti w then (match es_cat (fun f => ih M (t, L, S', AH, f, cs, ss)) (es_br F op v w) with
                  | some x => match es_cat (fun f => ih M (pc + 3, L, S', AH, f, cs, ss)) (es_br F (es_ng op) v w) with
                    | some y => some (x ++ y)
                    | none => none
                  | none => none) else none
              | _, _ => none
            | .tableswitch dflt lo hi offs => match S with
              | v :: S' => match es_kn F v with
                | some n => match es_to pc (bif decide ((nI n).toInt < lo) || decide (hi < (nI n).toInt) then dflt else (offs[((nI n).toInt - lo).toNat]?).getD 0) with
                  | some t => bif (decide ((nI n).toInt < lo) || decide (hi < (nI n).toInt)) || decide (((nI n).toInt - lo).toNat < offs.size) then ih M (t, L, S', AH, F, cs, ss) else none
                  | none => none
                | none => match v.1, F[v.2]? with
                  | 1, some q => es_tn ih M pc L S' AH F cs ss dflt lo hi q
                  | _, _ => none
              | _ => none
            | .invokevirtual _ => match e.2.2.2 with
              | 1 :: M' :: n :: ci :: _ => es_sv ME ih M (es_cal M M') n ci pc L S AH F cs ss
              | 3 :: M' :: n :: _ => es_sq ME strs ih M (es_cal M M') n pc L S AH F cs ss
              | _ => none
            | .invokestatic _ => match e.2.2.2 with
              | 2 :: M' :: n :: _ => es_ss ME ih M (es_cal M M') n pc L S AH F cs ss
              | 4 :: _ => es_sc ME ih M pc L S AH F cs ss
              | 5 :: _ => es_smm ME (fun x y => if y < x then y else x) ih M pc L S AH F cs ss
              | 6 :: _ => es_smm ME (fun x y => if x < y then y else x) ih M pc L S AH F cs ss
              | _ => none
            | .invokespecial _ => match e.2.2.2 with
              | 7 :: M' :: n :: _ => es_si ME ih M (es_cal M M') n pc L S AH F cs ss
              | 9 :: _ => es_so ME ih M pc L S AH F cs ss
              | _ => none
            | _ => none
noncomputable def es_run : Nat → Nat → es_K → Option (List es_E) := fun n => Nat.rec (motive := fun _ => Nat → es_K → Option (List es_E)) (fun _ _ => none) (fun _ ih M K => es_step ME strs SL ih M K) n
theorem es_run_z (M : Nat) (K : es_K) : es_run ME strs SL 0 M K = none := rfl
theorem es_run_s (n M : Nat) (K : es_K) : es_run ME strs SL (n + 1) M K = es_step ME strs SL (es_run ME strs SL n) M K := rfl
end Step
