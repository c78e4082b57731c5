section Inst
variable {l : Launch} {SL : Nat} {D : va_G} {cI cJ cZ cC cM : ClassId} {n0 : Nat} {b : Nat → Nat} {F : es_F}
theorem gEq_hr {tys : List (ClassId × FieldType)} {ρ : Nat → Int32} {AH AH' : List es_O} {H : Heap} (h : gEq AH AH') (hr : es_hr D tys n0 b ρ AH H) : es_hr D tys n0 b ρ AH' H := by
  refine ⟨by rw [hr.1, h.1], fun i o ho => ?_⟩
  obtain ⟨o2, h2, h3⟩ := h.2 i o ho
  have h4 := hr.2 i o2 h2
  rcases h3 with rfl | ⟨t, n, c, c2, rfl, rfl, hc⟩
  · exact h4
  · obtain ⟨q, V, a1, a2, a3⟩ := h4
    exact ⟨q, V, a1, a2, fun j hj => by
      have h5 := a3 j hj
      dsimp only at h5 ⊢
      rw [hc j hj] at h5
      exact h5⟩
noncomputable def gxR (l : Launch) (SL : Nat) (D : va_G) (cI cJ cZ cC cM : ClassId) (n0 : Nat) (b : Nat → Nat) (M : Nat) (K : es_K) (ends : List es_E) : Prop := ∀ ρ : Nat → Int32, es_RS l es_strs es_wx es_WS SL D cI cJ cZ cC cM n0 b ρ (gME es_ME0 M) K ends
noncomputable def gxX (l : Launch) (SL : Nat) (D : va_G) (cI cJ cZ cC cM : ClassId) (n0 : Nat) (b : Nat → Nat) (F : es_F) : gX := (es_ME0, es_strs, SL, gxR l SL D cI cJ cZ cC cM n0 b, F)
theorem gx_ok : gOK (gxX l SL D cI cJ cZ cC cM n0 b F) := by
  refine ⟨?_, ?_, ?_, ?_, rfl, ?_⟩
  · intro ih hih M K ends h ρ
    exact es_step_ok es_G0 (fun ρ' M K ends h => hih M K ends h ρ') M K ends h
  · intro M pc L L' S AH F cs ss ends hL h ρ p e R s m args below meth c Q fc hev htab hends H ls locs st hinv
    exact h ρ p e R s m args below meth c Q fc hev htab hends H ls locs st ⟨⟨hinv.1.1, hinv.1.2.1, fun i v hv => hinv.1.2.2 i v (hL i v hv)⟩, hinv.2⟩
  · intro M K ρ p e R s m args below meth c Q fc hev htab hends
    exact hends (0, K) (List.mem_singleton.mpr rfl)
  · intro M pc L S AH F cs ss cs' ss' ends h1 h2 h ρ p e R s m args below meth c Q fc hev htab hends H ls locs st hinv
    exact W.widen (k := cs') (n := ss') h1 h2 (h ρ p e R s m args below meth c Q fc hev htab hends H ls locs st hinv)
  · intro M pc L S AH AH' F cs ss ends hE h ρ p e R s m args below meth c Q fc hev htab hends H ls locs st hinv
    exact h ρ p e R s m args below meth c Q fc hev htab hends H ls locs st ⟨hinv.1, hinv.2.1, gEq_hr hE hinv.2.2.1, hinv.2.2.2⟩
theorem gx_hX : gHX (gxX l SL D cI cJ cZ cC cM n0 b F) := ⟨rfl, rfl⟩
end Inst
/-- each of the script's numbers is known -/
noncomputable def gFs (SL : Nat) (ρ : Nat → Int32) : es_F := (List.range SL).map (fun j => (es_zb (ρ j), es_zb (ρ j)))
theorem gFs_fr (SL : Nat) (ρ : Nat → Int32) : es_fr ρ (gFs SL ρ) := by
  intro k q hq
  unfold gFs at hq
  rw [List.getElem?_map] at hq
  cases hk : (List.range SL)[k]? with
  | none => rw [hk] at hq; cases hq
  | some j =>
    rw [hk] at hq
    cases hq
    obtain ⟨h1, h2⟩ := List.getElem?_eq_some_iff.mp hk
    rw [List.getElem_range] at h2
    subst h2
    exact ⟨Nat.le_refl _, Nat.le_refl _⟩
theorem gzb (x : Int32) : (es_zb x + 2147483648) % 4294967296 = eI x.toInt := by
  rw [geI]
  unfold es_zb
  have h1 : x.toInt = x.toBitVec.toInt := rfl
  rw [h1, BitVec.toInt_eq_toNat_cond]
  have h2 := x.toBitVec.isLt
  split <;> omega
theorem gFs_kn {SL : Nat} {ρ : Nat → Int32} {i : Nat} (h : i < SL) : es_kn (gFs SL ρ) (1, i) = some (eI (ρ i).toInt) ∧ gc32 (ρ i).toInt := by
  refine ⟨?_, gc32_t _⟩
  have h1 : (gFs SL ρ)[i]? = some (es_zb (ρ i), es_zb (ρ i)) := by
    unfold gFs
    rw [List.getElem?_map, List.getElem?_range h]
    rfl
  unfold es_kn
  dsimp only
  rw [h1]
  dsimp only
  rw [es_beq.mpr rfl]
  show some ((es_zb (ρ i) + 2147483648) % 4294967296) = _
  rw [gzb]
