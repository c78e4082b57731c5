section Met2
variable {l : Launch} {strs : List (String × Nat × String)} {wx : List Cond} {WS : List Cond} {SL : Nat} {D : va_G} {cI cJ cZ cC cM : ClassId} {n0 : Nat} {b : Nat → Nat} {ρ : Nat → Int32}
variable {p : Program} {e : Env} {R : Room} {s : State} {m : MethodId} {args : Array Value} {below : List Frame} {meth : Method} {c : Code} {M : es_M}
def es_dok (M : es_M) (E : es_I) : Bool := decide (decode (es_code M) E.1 = .ok (E.2.1, E.2.2.1)) && (match E.2.1 with
  | .tableswitch _ _ _ _ => true
  | _ => Nat.beq E.2.2.1 (es_len E.2.1))
/-- a throw, as its row of the table says it -/
def es_tok (WS : List Cond) (wx : List Cond) (strs : List (String × Nat × String)) (M : es_M) (E : es_I) : Bool := match E.2.1, E.2.2.2 with
  | .new ik, [100, x, is, ic, wide, si, j1, j2] => (Nat.beq E.2.2.1 3 && (!Nat.beq x 2 || Nat.beq wide 0)) && (match strs[si]? with
      | some q => decide (q.1 = es_own M) && decide (q.2.1 = is)
      | none => false) && ((es_wj WS j1 (.classLink (es_own M) ik (es_exc x)) && es_wj WS j2 (.initialized (es_exc x))) && (decide (decode (es_code M) (E.1 + 3) = .ok (.dup, 1)) &&
      (bif Nat.beq wide 0 then decide (decode (es_code M) (E.1 + 4) = .ok (.ldc is, 2)) && (decide (decode (es_code M) (E.1 + 6) = .ok (.invokespecial ic, 3)) && decide (decode (es_code M) (E.1 + 9) = .ok (.athrow, 1)))
        else decide (decode (es_code M) (E.1 + 4) = .ok (.ldc_w is, 3)) && (decide (decode (es_code M) (E.1 + 7) = .ok (.invokespecial ic, 3)) && decide (decode (es_code M) (E.1 + 10) = .ok (.athrow, 1))))))
  | _, 100 :: _ => false
  | _, _ => true
def es_nms : List String := ["java/lang/RuntimeException", "java/lang/Exception"]
/-- the words that a throw of the class with this number, by this constructor, asks beside -/
def es_ats (own : String) (ic x : Nat) : List Cond := bif Nat.beq x 2 then es_atN own ic (es_exc x) else vx_atS own ic (es_exc x) es_nms
def es_thw (WS wx : List Cond) (own : String) (ic x : Nat) : Prop := ∀ w ∈ es_ats own ic x, w ∈ WS ∨ (w ∈ wx ∧ w.onTables = true)
theorem es_throw_ok (hWS : ∀ w ∈ WS, goodWord w = true)  (fc : es_FC WS SL D cI cJ cZ cC cM n0 b ρ p R s m args meth c M) (hev : es_ev l strs wx SL D cI cJ cZ cC cM n0 b ρ s) (htab : c.exceptionTable.toList = tableOf (es_hh M)) (hh0 : es_hh M = []) {E : es_I} (hthw : ∀ x is ic wide si j1 j2, E.2.2.2 = [100, x, is, ic, wide, si, j1, j2] → es_thw WS wx (es_own M) ic x) (hd : decode (es_code M) E.1 = .ok (E.2.1, E.2.2.1)) (htok : es_tok WS wx strs M E = true) {x : Nat} {tl : List Nat} (ha : E.2.2.2 = 100 :: x :: tl)
    {L : es_L} {S : List es_V} {AH : List es_O} {F : es_F} {cs ss : Nat} (hcap : ((Nat.blt cs (es_mc M) && Nat.ble (ss + 6) (es_ms M)) && (Nat.blt 5 (es_rf M) && Nat.ble 100 (es_lo M)) && Nat.ble (es_cts S) 8) = true) {lfs : List es_Lf} (hin : (x + 2, (0, 0), AH ++ [(1, 0, [])], F) ∈ lfs) :
    es_G p l e R s m args below meth c (vx_MQ below (es_Qc D (es_TY cI cJ cZ cC cM) n0 b ρ lfs) (es_XC D (es_TY cI cJ cZ cC cM) n0 b ρ lfs) args s (es_mc M) (es_ms M) (es_A n0)) D (es_TY cI cJ cZ cC cM) n0 b ρ (es_mL M) (E.1, L, S, AH, F, cs, ss) := by
  intro H ls locs st hinv
  obtain ⟨hl, hs, hH, hF, hS⟩ := hinv
  dsimp only at hl hs hH hF ⊢
  obtain ⟨hx, hb, hml, hown, hts, hK, hR, hinit, hscr, hao, hlocks, hr⟩ := id fc
  obtain ⟨-, -, -, htr, hU, hN, hst, hw, -, -⟩ := hev
  obtain ⟨epc, ins, len, aux⟩ := E
  dsimp only at ha hd ⊢
  simp only [Bool.and_eq_true, es_blt, Nat.ble_eq] at hcap
  obtain ⟨⟨⟨c1, c2⟩, c3, c4⟩, c5⟩ := hcap
  have hsum := (es_cts_ok S st hs).2
  have hsz : ls.size = c.maxLocals := by rw [hl.1, hml]
  unfold es_tok at htok
  dsimp only at htok
  subst ha
  split at htok
  · rename_i ik x' is ic wide si j1 j2 heq
    cases heq
    have hthx := hthw x is ic wide si j1 j2 rfl
    simp only [Bool.and_eq_true] at htok
    obtain ⟨⟨⟨h3, hxw⟩, hstr⟩, ⟨hj1, hj2⟩, hdup, hrest⟩ := htok
    have e3 := es_beq.mp h3
    subst e3
    cases hq : strs[si]? with
    | none => rw [hq] at hstr; cases hstr
    | some q =>
      rw [hq] at hstr
      dsimp only at hstr
      rw [Bool.and_eq_true] at hstr
      obtain ⟨so, sk, tx⟩ := q
      have g1 := of_decide_eq_true hstr.1
      have g2 := of_decide_eq_true hstr.2
      dsimp only at g1 g2
      subst g1; subst g2
      have hsa := (hst _ _ hq).1
      dsimp only at hsa
      have hat : ∀ w ∈ es_ats (es_own M) ic x, w.before args s = true := fun w hw' => by
        rcases hthx w hw' with h | ⟨h, h2⟩
        · exact hts w h
        · exact va_Nw.use h2 (hw w h)
      have hgood : ∀ w ∈ Cond.classLink (es_own M) ik (es_exc x) :: Cond.initialized (es_exc x) :: es_ats (es_own M) ic x, vx_ot w = true := fun w hw' => by
        rcases List.mem_cons.mp hw' with rfl | hw'
        · unfold vx_ot; rw [hWS _ (es_wj_in hj1), Bool.or_true]
        · rcases List.mem_cons.mp hw' with rfl | hw'
          · unfold vx_ot; rw [hWS _ (es_wj_in hj2), Bool.or_true]
          · rcases hthx w hw' with h | ⟨h, h2⟩
            · unfold vx_ot; rw [hWS _ h, Bool.or_true]
            · unfold vx_ot; rw [h2, Bool.true_or]
      have hfit : Bundle.fit (es_exc x) = true := by unfold es_exc; split <;> decide +kernel
      have hfn : ∀ n ∈ es_nms, Bundle.fit n = true := by decide +kernel
      have hxx : ∀ t : State, s.vm.Alike t.vm → t.heap.size = H.size + 1 → (∀ q : Nat, q < H.size → t.heap[q]? = H[q]?) → es_XC D (es_TY cI cJ cZ cC cM) n0 b ρ lfs (es_exc x) s t := fun t ht1 ht2 ht3 =>
        ⟨_, hin, x, rfl, rfl, hF, es_hr_push hH ht2 ht3 trivial, by rw [ht2]; exact Nat.le_trans hS.1 (by omega), fun q q1 q2 => (ht3 q (Nat.lt_of_lt_of_le q1 hS.1)).trans (hS.2.1 q q1 q2)⟩
      have hout : ∀ pc9 : Nat, ∀ z ∈ c.exceptionTable.toList, covers z pc9 = false := fun pc9 z hz => by rw [htab, hh0] at hz; cases hz
      cases hx2 : Nat.beq x 2
      · have ea : es_ats (es_own M) ic x = vx_atS (es_own M) ic (es_exc x) es_nms := by unfold es_ats; rw [hx2]; rfl
        rw [ea] at hat hgood
        cases hwd : Nat.beq wide 0
        · rw [hwd] at hrest
          simp only [cond_false, Bool.and_eq_true] at hrest
          exact vx_throwSW hx hb htr hown hfit hfn (hts _ (es_wj_in hj1)) (hts _ (es_wj_in hj2)) hsa hat hgood hU hN hS hsz hd (of_decide_eq_true hdup) (of_decide_eq_true hrest.1) (of_decide_eq_true hrest.2.1) (of_decide_eq_true hrest.2.2) (hout _) (by show 2 + 3 < _; omega) (by show _ + (13 * (2 + 1) + 43) ≤ _; omega) (by omega) (by omega) hlocks hxx hS.2.2 (by omega) (by omega)
        · rw [hwd] at hrest
          simp only [cond_true, Bool.and_eq_true] at hrest
          exact vx_throwS hx hb htr hown hfit hfn (hts _ (es_wj_in hj1)) (hts _ (es_wj_in hj2)) hsa hat hgood hU hN hS hsz hd (of_decide_eq_true hdup) (of_decide_eq_true hrest.1) (of_decide_eq_true hrest.2.1) (of_decide_eq_true hrest.2.2) (hout _) (by show 2 + 3 < _; omega) (by show _ + (13 * (2 + 1) + 43) ≤ _; omega) (by omega) (by omega) hlocks hxx hS.2.2 (by omega) (by omega)
      · have ea : es_ats (es_own M) ic x = es_atN (es_own M) ic (es_exc x) := by unfold es_ats; rw [hx2]; rfl
        rw [ea] at hat hgood
        rw [hx2] at hxw
        have hwd : Nat.beq wide 0 = true := hxw
        rw [hwd] at hrest
        simp only [cond_true, Bool.and_eq_true] at hrest
        exact es_throwN hx hb htr hown hfit (hts _ (es_wj_in hj1)) (hts _ (es_wj_in hj2)) hsa hat hgood hU hN hS hsz hd (of_decide_eq_true hdup) (of_decide_eq_true hrest.1) (of_decide_eq_true hrest.2.1) (of_decide_eq_true hrest.2.2) (hout _) (by omega) (by omega) (by omega) (by omega) hlocks hxx hS.2.2 (by omega) (by omega)
  · cases htok
  · rename_i h7 h8
    first | exact (h7 _ rfl).elim | exact (h8 _ rfl).elim | (exfalso; apply h7; rfl)
theorem es_leaf_ok (hWS : ∀ w ∈ WS, goodWord w = true) (hthw : ∀ q ∈ es_tab M, ∀ E ∈ q.2, ∀ x is ic wide si j1 j2, E.2.2.2 = [100, x, is, ic, wide, si, j1, j2] → es_thw WS wx (es_own M) ic x) (htk : ∀ q ∈ es_tab M, ∀ E ∈ q.2, es_dok M E = true ∧ es_tok WS wx strs M E = true) (fc : es_FC WS SL D cI cJ cZ cC cM n0 b ρ p R s m args meth c M) (hev : es_ev l strs wx SL D cI cJ cZ cC cM n0 b ρ s) (htab : c.exceptionTable.toList = tableOf (es_hh M)) {E : es_E} {lf : es_Lf} (h : es_leaf M E = some lf) {lfs : List es_Lf} (hin : lf ∈ lfs) :
    es_EG p l e R s m args below meth c (vx_MQ below (es_Qc D (es_TY cI cJ cZ cC cM) n0 b ρ lfs) (es_XC D (es_TY cI cJ cZ cC cM) n0 b ρ lfs) args s (es_mc M) (es_ms M) (es_A n0)) D (es_TY cI cJ cZ cC cM) n0 b ρ (es_mL M) E := by
  obtain ⟨hx, hb, hml, hown, hts, hK, hR, hinit, hscr, hao, hlocks, hr⟩ := id fc
  obtain ⟨kd, pc, L, S, AH, F, cs, ss⟩ := E
  unfold es_leaf at h
  split at h
  · rename_i n pc' L' S' AH' F' cs' ss' heq
    cases heq
    split at h
    · rename_i hh0
      cases hcap : (Nat.ble cs (es_mc M) && Nat.ble ss (es_ms M))
      · rw [hcap] at h; cases h
      · rw [hcap] at h
        cases h
        rw [Bool.and_eq_true, Nat.ble_eq, Nat.ble_eq] at hcap
        intro H ls locs st q ce hinv h1 h2 h3
        obtain ⟨hl, hs, hH, hF, hS⟩ := hinv
        refine vx_out (E := es_exc n) ?_ hlocks h1 h2 h3 (fun t ht hvm => ⟨_, hin, n, rfl, rfl, hF, by rw [ht]; exact hH, hS.F ht⟩) hS.2.2 hcap.1 hcap.2
        intro z hz
        rw [htab, hh0] at hz
        cases hz
    · cases h
  · rename_i pc' L' S' AH' F' cs' ss' heq
    cases heq
    split at h
    · rename_i ent hat
      obtain ⟨e1, qq, hq1, hq2⟩ := es_at_ok hat
      obtain ⟨hdk, htok⟩ := htk qq hq1 ent hq2
      unfold es_dok at hdk
      rw [Bool.and_eq_true] at hdk
      have hd := of_decide_eq_true hdk.1
      split at h
      · rename_i x tl haux
        split at h
        · rename_i hh0
          cases hcap : ((Nat.blt cs (es_mc M) && Nat.ble (ss + 6) (es_ms M)) && (Nat.blt 5 (es_rf M) && Nat.ble 100 (es_lo M)) && Nat.ble (es_cts S) 8)
          · rw [hcap] at h; cases h
          · rw [hcap] at h
            cases h
            subst e1
            exact es_throw_ok hWS fc hev htab hh0 (hthw qq hq1 ent hq2) hd htok haux hcap hin
        · cases h
      · cases hrt : es_rtv (es_rt M) ent.2.1 S F with
        | none => rw [hrt] at h; cases h
        | some q =>
          rw [hrt] at h
          dsimp only at h
          cases hcap : (Nat.ble cs (es_mc M) && Nat.ble ss (es_ms M))
          · rw [hcap] at h; cases h
          · rw [hcap] at h
            cases h
            rw [Bool.and_eq_true, Nat.ble_eq, Nat.ble_eq] at hcap
            intro H ls locs st hinv
            obtain ⟨hl, hs, hH, hF, hS⟩ := hinv
            dsimp only at hl hs hH hF ⊢
            have hdl : es_len ent.2.1 = ent.2.2.1 := by
              have h2 := hdk.2
              split at h2
              · rename_i hts2
                rw [hts2] at hrt
                cases hrt
              · exact (es_beq.mp h2).symm
            rw [← hdl, e1] at hd
            refine W.widen (k := es_mc M) (n := es_ms M) hcap.1 hcap.2 (vx_ret ?_)
            exact es_rtv_ok hrt hF hs hd hx hb hr hlocks hS.2.2 (fun h0 t ht hW => ⟨_, hin, hF, by rw [ht]; exact hH, hS.F ht, Or.inl ⟨h0, rfl⟩⟩) (fun h1 y hy t ht hW => ⟨_, hin, hF, by rw [ht]; exact hH, hS.F ht, Or.inr ⟨h1, y, rfl, hy⟩⟩)
    · cases h
end Met2
