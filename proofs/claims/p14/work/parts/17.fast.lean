def es_teq (pc : Nat) (off : Int) (t : Nat) : Bool := match es_to pc off with
  | some x => Nat.beq x t
  | none => false
theorem es_fi2_ok {l : List (Nat × es_C)} {pc : Nat} {r : es_C} (h : es_fi2 l pc = some r) : (pc, r) ∈ l := by
  induction l with
  | nil => cases h
  | cons q t ih =>
    have h' : (bif Nat.beq q.1 pc then some q.2 else es_fi2 t pc) = some r := h
    cases hb : Nat.beq q.1 pc
    · rw [hb] at h'
      exact List.mem_cons_of_mem _ (ih h')
    · rw [hb] at h'
      cases h'
      rw [← es_beq.mp hb]
      exact List.mem_cons_self
theorem es_at2_ok {l : List (Nat × List (Nat × es_C))} {pc : Nat} {r : es_C} (h : es_at2 l pc = some r) : ∃ q ∈ l, (pc, r) ∈ q.2 := by
  induction l with
  | nil => cases h
  | cons q t ih =>
    have h' : (bif Nat.blt pc q.1 then es_fi2 q.2 pc else es_at2 t pc) = some r := h
    cases hb : Nat.blt pc q.1
    · rw [hb] at h'
      obtain ⟨q', h1, h2⟩ := ih h'
      exact ⟨q', List.mem_cons_of_mem _ h1, h2⟩
    · rw [hb] at h'
      exact ⟨q, List.mem_cons_self, es_fi2_ok h'⟩
/-- is this number the row's? -/
def es_qok (e : es_I) (pc c a n : Nat) : Bool := match e.2.1 with
  | .iload_n k => (Nat.beq c 1 && (Nat.beq k a && Nat.beq n 1)) && e.2.2.2.isEmpty
  | .iload k => (Nat.beq c 1 && (Nat.beq k a && Nat.beq n 2)) && e.2.2.2.isEmpty
  | .aload_n k => (Nat.beq c 2 && (Nat.beq k a && Nat.beq n 1)) && e.2.2.2.isEmpty
  | .aload k => (Nat.beq c 2 && (Nat.beq k a && Nat.beq n 2)) && e.2.2.2.isEmpty
  | .iconst v => (Nat.beq c 3 && (es_veq (es_c (Int32.ofInt v)) (0, a) && Nat.beq n 1)) && e.2.2.2.isEmpty
  | .bipush v => (Nat.beq c 3 && (es_veq (es_c ((Int8.ofInt v).toInt32)) (0, a) && Nat.beq n 2)) && e.2.2.2.isEmpty
  | .sipush v => (Nat.beq c 3 && (es_veq (es_c ((Int16.ofInt v).toInt32)) (0, a) && Nat.beq n 3)) && e.2.2.2.isEmpty
  | .istore_n k => (Nat.beq c 4 && (Nat.beq k a && Nat.beq n 1)) && e.2.2.2.isEmpty
  | .istore k => (Nat.beq c 4 && (Nat.beq k a && Nat.beq n 2)) && e.2.2.2.isEmpty
  | .iinc k v => (Nat.beq c 5 && (Nat.beq k a && decide (Int32.ofInt v = nI n))) && e.2.2.2.isEmpty
  | .goto off => (Nat.beq c 6 && es_teq pc off a) && e.2.2.2.isEmpty
  | .iadd => Nat.beq c 7 && e.2.2.2.isEmpty
  | .isub => Nat.beq c 8 && e.2.2.2.isEmpty
  | .imul => Nat.beq c 9 && e.2.2.2.isEmpty
  | .iand => Nat.beq c 10 && e.2.2.2.isEmpty
  | .ior => Nat.beq c 11 && e.2.2.2.isEmpty
  | .ishl => Nat.beq c 12 && e.2.2.2.isEmpty
  | .ishr => Nat.beq c 13 && e.2.2.2.isEmpty
  | .irem => Nat.beq c 14 && e.2.2.2.isEmpty
  | .ifCond op off => (Nat.beq c 15 && (es_teq pc off a && decide (es_opn n = op))) && e.2.2.2.isEmpty
  | .if_icmp op off => (Nat.beq c 16 && (es_teq pc off a && decide (es_opn n = op))) && e.2.2.2.isEmpty
  | .return_ => Nat.beq c 17 && e.2.2.2.isEmpty
  | .ireturn => Nat.beq c 17 && e.2.2.2.isEmpty
  | .areturn => Nat.beq c 17 && e.2.2.2.isEmpty
  | .lreturn => Nat.beq c 17 && e.2.2.2.isEmpty
  | .getfield _ => Nat.beq c 18 && (match e.2.2.2 with
    | [ci, k, _] => (Nat.beq ci a && Nat.beq k n) && Nat.blt ci 60
    | _ => false)
  | .iaload => Nat.beq c 19 && e.2.2.2.isEmpty
  | .iastore => Nat.beq c 20 && e.2.2.2.isEmpty
  | _ => false
section Fast
variable {ME : Nat → es_M} {strs : List (String × Nat × String)} {SL : Nat}
theorem es_isE {l : List Nat} (h : l.isEmpty = true) : l = [] := by cases l <;> simp_all
theorem es_teq_to {pc : Nat} {off : Int} {t : Nat} (h : es_teq pc off t = true) : es_to pc off = some t := by
  unfold es_teq at h
  split at h
  · rename_i x hx
    rw [hx, es_beq.mp h]
  · cases h
/-- a row of plain kind, with nothing beside -/
theorem es_sp {ih : Nat → es_K → Option (List es_E)} {M pc : Nat} {e : es_I} (hat : es_at (es_tab (ME M)) pc = some e) (ha : e.2.2.2 = []) {L : es_L} {S : List es_V} {AH : List es_O} {F : es_F} {cs ss : Nat} {ends : List es_E} {r : Option (Nat × es_L × List es_V)} (hr : es_pure (es_mL (ME M)) e.2.1 pc L S F = r)
    (h : es_gp ih M AH F cs ss r = some ends) : es_step ME strs SL ih M (pc, L, S, AH, F, cs, ss) = some ends := by
  unfold es_step
  dsimp only
  rw [hat]
  dsimp only
  rw [ha]
  dsimp only
  rw [hr]
  cases r with
  | none => cases h
  | some q => exact h
theorem es_fast_ok {ih : Nat → es_K → Option (List es_E)} {M pc c a n : Nat} {e : es_I} (hat : es_at (es_tab (ME M)) pc = some e) (hq : es_qok e pc c a n = true) {L : es_L} {S : List es_V} {AH : List es_O} {F : es_F} {cs ss : Nat} {ends : List es_E}
    (h : es_fast ih M c a n (es_mL (ME M)) pc L S AH F cs ss = some ends) : es_step ME strs SL ih M (pc, L, S, AH, F, cs, ss) = some ends := by
  unfold es_qok at hq
  split at hq
  · rename_i k hins
    simp only [Bool.and_eq_true, es_beq] at hq
    obtain ⟨⟨rfl, rfl, rfl⟩, ha⟩ := hq
    exact es_sp hat (es_isE ha) (by rw [hins]; rfl) h
  · rename_i k hins
    simp only [Bool.and_eq_true, es_beq] at hq
    obtain ⟨⟨rfl, rfl, rfl⟩, ha⟩ := hq
    exact es_sp hat (es_isE ha) (by rw [hins]; rfl) h
  · rename_i k hins
    simp only [Bool.and_eq_true, es_beq] at hq
    obtain ⟨⟨rfl, rfl, rfl⟩, ha⟩ := hq
    exact es_sp hat (es_isE ha) (by rw [hins]; rfl) h
  · rename_i k hins
    simp only [Bool.and_eq_true, es_beq] at hq
    obtain ⟨⟨rfl, rfl, rfl⟩, ha⟩ := hq
    exact es_sp hat (es_isE ha) (by rw [hins]; rfl) h
  · rename_i k hins
    simp only [Bool.and_eq_true, es_beq] at hq
    obtain ⟨⟨rfl, hv, rfl⟩, ha⟩ := hq
    exact es_sp (r := some (pc + 1, L, (0, a) :: S)) hat (es_isE ha) (by rw [hins]; show some (pc + 1, L, es_c (Int32.ofInt k) :: S) = _; rw [es_veq_ok hv]) h
  · rename_i k hins
    simp only [Bool.and_eq_true, es_beq] at hq
    obtain ⟨⟨rfl, hv, rfl⟩, ha⟩ := hq
    exact es_sp (r := some (pc + 2, L, (0, a) :: S)) hat (es_isE ha) (by rw [hins]; show some (pc + 2, L, es_c ((Int8.ofInt k).toInt32) :: S) = _; rw [es_veq_ok hv]) h
  · rename_i k hins
    simp only [Bool.and_eq_true, es_beq] at hq
    obtain ⟨⟨rfl, hv, rfl⟩, ha⟩ := hq
    exact es_sp (r := some (pc + 3, L, (0, a) :: S)) hat (es_isE ha) (by rw [hins]; show some (pc + 3, L, es_c ((Int16.ofInt k).toInt32) :: S) = _; rw [es_veq_ok hv]) h
  · rename_i k hins
    simp only [Bool.and_eq_true, es_beq] at hq
    obtain ⟨⟨rfl, rfl, rfl⟩, ha⟩ := hq
    exact es_sp hat (es_isE ha) (by rw [hins]; rfl) h
  · rename_i k hins
    simp only [Bool.and_eq_true, es_beq] at hq
    obtain ⟨⟨rfl, rfl, rfl⟩, ha⟩ := hq
    exact es_sp hat (es_isE ha) (by rw [hins]; rfl) h
  · rename_i k v hins
    simp only [Bool.and_eq_true, es_beq, decide_eq_true_eq] at hq
    obtain ⟨⟨rfl, rfl, hv⟩, ha⟩ := hq
    exact es_sp (r := es_finc k n (es_mL (ME M)) pc L S F) hat (es_isE ha) (by rw [hins]; unfold es_finc; rw [← hv]; rfl) h
  · rename_i off hins
    simp only [Bool.and_eq_true, es_beq] at hq
    obtain ⟨⟨rfl, hv⟩, ha⟩ := hq
    exact es_sp (r := some (a, L, S)) hat (es_isE ha) (by rw [hins]; show (match es_to pc off with | some t => some (t, L, S) | none => none) = _; rw [es_teq_to hv]) h
  · rename_i hins
    simp only [Bool.and_eq_true, es_beq] at hq
    obtain ⟨rfl, ha⟩ := hq
    exact es_sp hat (es_isE ha) (by rw [hins]; rfl) h
  · rename_i hins
    simp only [Bool.and_eq_true, es_beq] at hq
    obtain ⟨rfl, ha⟩ := hq
    exact es_sp hat (es_isE ha) (by rw [hins]; rfl) h
  · rename_i hins
    simp only [Bool.and_eq_true, es_beq] at hq
    obtain ⟨rfl, ha⟩ := hq
    exact es_sp hat (es_isE ha) (by rw [hins]; rfl) h
  · rename_i hins
    simp only [Bool.and_eq_true, es_beq] at hq
    obtain ⟨rfl, ha⟩ := hq
    exact es_sp hat (es_isE ha) (by rw [hins]; rfl) h
  · rename_i hins
    simp only [Bool.and_eq_true, es_beq] at hq
    obtain ⟨rfl, ha⟩ := hq
    exact es_sp hat (es_isE ha) (by rw [hins]; rfl) h
  · rename_i hins
    simp only [Bool.and_eq_true, es_beq] at hq
    obtain ⟨rfl, ha⟩ := hq
    exact es_sp hat (es_isE ha) (by rw [hins]; rfl) h
  · rename_i hins
    simp only [Bool.and_eq_true, es_beq] at hq
    obtain ⟨rfl, ha⟩ := hq
    exact es_sp hat (es_isE ha) (by rw [hins]; rfl) h
  · rename_i hins
    simp only [Bool.and_eq_true, es_beq] at hq
    obtain ⟨rfl, ha⟩ := hq
    exact es_sp hat (es_isE ha) (by rw [hins]; rfl) h
  · rename_i op off hins
    simp only [Bool.and_eq_true, es_beq, decide_eq_true_eq] at hq
    obtain ⟨⟨rfl, hv, rfl⟩, ha⟩ := hq
    have h' : es_fi0 ih M (es_opn n) a pc L S AH F cs ss = some ends := h
    unfold es_step
    dsimp only
    rw [hat]
    dsimp only
    rw [es_isE ha]
    dsimp only
    unfold es_hs
    dsimp only
    rw [hins]
    dsimp only [es_pure]
    rw [es_teq_to hv]
    unfold es_fi0 at h'
    cases S with
    | nil => cases h'
    | cons v S' => exact h'
  · rename_i op off hins
    simp only [Bool.and_eq_true, es_beq, decide_eq_true_eq] at hq
    obtain ⟨⟨rfl, hv, rfl⟩, ha⟩ := hq
    have h' : es_fi1 ih M (es_opn n) a pc L S AH F cs ss = some ends := h
    unfold es_step
    dsimp only
    rw [hat]
    dsimp only
    rw [es_isE ha]
    dsimp only
    unfold es_hs
    dsimp only
    rw [hins]
    dsimp only [es_pure]
    rw [es_teq_to hv]
    unfold es_fi1 at h'
    rcases S with _ | ⟨w, _ | ⟨v, S'⟩⟩
    · cases h'
    · cases h'
    · exact h'
  · rename_i hins
    simp only [Bool.and_eq_true, es_beq] at hq
    obtain ⟨rfl, ha⟩ := hq
    unfold es_step
    dsimp only
    rw [hat]
    dsimp only
    rw [es_isE ha]
    dsimp only
    unfold es_hs
    dsimp only
    rw [hins]
    exact h
  · rename_i hins
    simp only [Bool.and_eq_true, es_beq] at hq
    obtain ⟨rfl, ha⟩ := hq
    unfold es_step
    dsimp only
    rw [hat]
    dsimp only
    rw [es_isE ha]
    dsimp only
    unfold es_hs
    dsimp only
    rw [hins]
    exact h
  · rename_i hins
    simp only [Bool.and_eq_true, es_beq] at hq
    obtain ⟨rfl, ha⟩ := hq
    unfold es_step
    dsimp only
    rw [hat]
    dsimp only
    rw [es_isE ha]
    dsimp only
    unfold es_hs
    dsimp only
    rw [hins]
    exact h
  · rename_i hins
    simp only [Bool.and_eq_true, es_beq] at hq
    obtain ⟨rfl, ha⟩ := hq
    unfold es_step
    dsimp only
    rw [hat]
    dsimp only
    rw [es_isE ha]
    dsimp only
    unfold es_hs
    dsimp only
    rw [hins]
    exact h
  -- getfield
  · rename_i idx hins
    rw [Bool.and_eq_true, es_beq] at hq
    obtain ⟨rfl, hq2⟩ := hq
    split at hq2
    · rename_i ci k j haux
      simp only [Bool.and_eq_true, es_beq, es_blt] at hq2
      obtain ⟨⟨rfl, rfl⟩, h100⟩ := hq2
      have h' : es_gh ih M (es_fgf ci k pc L S AH F cs ss) = some ends := h
      unfold es_step
      dsimp only
      rw [hat]
      dsimp only
      have hhs : es_hs SL (ME M) e (pc, L, S, AH, F, cs, ss) = es_fgf ci k pc L S AH F cs ss := by
        unfold es_hs es_fgf
        dsimp only
        rw [hins, haux]
        dsimp only
        cases S <;> rfl
      have hpu : es_pure (es_mL (ME M)) e.2.1 pc L S F = none := by rw [hins]; rfl
      rw [hhs, hpu]
      split
      · rename_i tl h9; rw [haux] at h9; cases h9; exact absurd h100 (by decide)
      · rename_i tl h9; rw [haux] at h9; cases h9; exact absurd h100 (by decide)
      · rename_i h9; rw [haux] at h9; cases h9; exact absurd h100 (by decide)
      · dsimp only
        cases hf : es_fgf ci k pc L S AH F cs ss with
        | none => rw [hf] at h'; cases h'
        | some K' => rw [hf] at h'; exact h'
    · cases hq2
  -- iaload
  · rename_i hins
    simp only [Bool.and_eq_true, es_beq] at hq
    obtain ⟨rfl, ha⟩ := hq
    have h' : es_gh ih M (es_fld pc L S AH F cs ss) = some ends := h
    cases hf : es_fld pc L S AH F cs ss with
    | none => rw [hf] at h'; cases h'
    | some K' =>
      rw [hf] at h'
      have hhs : es_hs SL (ME M) e (pc, L, S, AH, F, cs, ss) = some K' := by
        rw [← hf]
        unfold es_fld at hf ⊢
        unfold es_hs
        dsimp only
        rw [hins]
        dsimp only
        rcases S with _ | ⟨j, _ | ⟨a', S'⟩⟩
        · cases hf
        · cases hf
        · dsimp only at hf ⊢
          cases hj : es_kn F j with
          | none => rw [hj] at hf <;> cases hf
          | some jn =>
            rw [hj] at hf
            dsimp only at hf ⊢
            cases h5 : Nat.beq a'.1 5
            · rfl
            · rw [h5] at hf; cases hf
      unfold es_step
      dsimp only
      rw [hat]
      dsimp only
      rw [es_isE ha]
      dsimp only
      have hpu : es_pure (es_mL (ME M)) e.2.1 pc L S F = none := by rw [hins]; rfl
      rw [hhs, hpu]
      exact h'
  -- iastore
  · rename_i hins
    simp only [Bool.and_eq_true, es_beq] at hq
    obtain ⟨rfl, ha⟩ := hq
    have h' : es_gh ih M (es_fst pc L S AH F cs ss) = some ends := h
    cases hf : es_fst pc L S AH F cs ss with
    | none => rw [hf] at h'; cases h'
    | some K' =>
      rw [hf] at h'
      have hhs : es_hs SL (ME M) e (pc, L, S, AH, F, cs, ss) = some K' := by
        rw [← hf]
        unfold es_hs
        dsimp only
        rw [hins]
        rfl
      unfold es_step
      dsimp only
      rw [hat]
      dsimp only
      rw [es_isE ha]
      dsimp only
      have hpu : es_pure (es_mL (ME M)) e.2.1 pc L S F = none := by rw [hins]; rfl
      rw [hhs, hpu]
      exact h'
  · cases hq
end Fast
def es_qq (o : Option es_I) (x : Nat × es_C) : Bool := match o with
  | some e => es_qok e x.1 x.2.1 x.2.2.1 x.2.2.2
  | none => false
section Run3
variable {ME : Nat → es_M} {strs : List (String × Nat × String)} {CT : Nat → List (Nat × List (Nat × es_C))} {SL : Nat}
theorem es_step2_ok (hCT : ∀ M, ∀ q ∈ CT M, ∀ x ∈ q.2, es_qq (es_at (es_tab (ME M)) x.1) x = true) {ih : Nat → es_K → Option (List es_E)} {M : Nat} {K : es_K} {ends : List es_E} (h : es_step2 ME strs CT SL ih M K = some ends) : es_step ME strs SL ih M K = some ends := by
  obtain ⟨pc, L, S, AH, F, cs, ss⟩ := K
  unfold es_step2 at h
  dsimp only at h
  cases hc : es_at2 (CT M) pc with
  | none => rw [hc] at h; exact h
  | some q =>
    rw [hc] at h
    dsimp only at h
    obtain ⟨z, h1, h2⟩ := es_at2_ok hc
    have h3 := hCT M z h1 _ h2
    unfold es_qq at h3
    dsimp only at h3
    cases hat : es_at (es_tab (ME M)) pc with
    | none => rw [hat] at h3; cases h3
    | some e => rw [hat] at h3; exact es_fast_ok hat h3 h
variable {l : Launch} {strs : List (String × Nat × String)} {wx : List Cond} {WS : List Cond} {D : va_G} {cI cJ cZ cC cM : ClassId} {n0 : Nat} {b : Nat → Nat}
theorem es_run2_ok (G : es_GH strs wx WS ME) (hCT : ∀ M, ∀ q ∈ CT M, ∀ x ∈ q.2, es_qq (es_at (es_tab (ME M)) x.1) x = true) : ∀ (n : Nat) (ρ : Nat → Int32) (M : Nat) (K : es_K) (ends : List es_E), es_run2 ME strs CT SL n M K = some ends → es_RS l strs wx WS SL D cI cJ cZ cC cM n0 b ρ (ME M) K ends
  | 0, _, _, _, _, h => by rw [es_run2_z] at h; cases h
  | n + 1, ρ, M, K, ends, h => by
    rw [es_run2_s] at h
    exact es_step_ok G (fun ρ' M' K' ends' h' => es_run2_ok G hCT n ρ' M' K' ends' h') M K ends (es_step2_ok hCT h)
end Run3
