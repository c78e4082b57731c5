section Law
variable {p : Program} {l : Launch} {e : Env} {s : State} {m : MethodId} {below : List Frame} {meth : Method} {c : Code} {b L : Nat} {xs : Nat → Int32} {D : va_G} {cI cJ cZ cC cM : ClassId}
def es_LW (l : Launch) (p : Program) (s : State) (m : MethodId) (meth : Method) (c : Code) (b L : Nat) (xs : Nat → Int32) (D : va_G) (cI cJ cZ cC cM : ClassId) : Prop := es_FC es_WS L D cI cJ cZ cC cM s.heap.size b xs p room_1 s m #[Value.ref b] meth c (es_ME 194) ∧ es_ev l es_strs es_wx L D cI cJ cZ cC cM s.heap.size b xs s ∧ c.exceptionTable.toList = tableOf (es_hh (es_ME 194))
theorem es_isir_ok {o : Option es_I} (h : es_isir o = true) : ∃ E : es_I, o = some E ∧ E.2.1 = .ireturn := by
  unfold es_isir at h
  split at h
  · rename_i E
    split at h
    · rename_i h2; exact ⟨E, rfl, h2⟩
    · cases h
  · cases h
theorem es_fin_ok (hC : es_LW l p s m meth c b L xs D cI cJ cZ cC cM) {E : es_E} (h : es_fin E = true) : es_EG p l e room_1 s m #[Value.ref b] below meth c (lw_Z below #[Value.ref b] s) D (es_TY cI cJ cZ cC cM) s.heap.size b xs (es_mL (es_ME 194)) E := by
  obtain ⟨k, pc, L1, S, AH, F, cs, ss⟩ := E
  unfold es_fin at h
  simp only [Bool.and_eq_true, es_beq, Nat.ble_eq] at h
  obtain ⟨⟨⟨rfl, h1⟩, h2⟩, h3, h4⟩ := h
  obtain ⟨E1, hat, hins⟩ := es_isir_ok h2
  have hd := es_rows es_G0 hat (fun d1 d2 d3 d4 h9 => by rw [hins] at h9; cases h9)
  rw [hins] at hd
  obtain ⟨fc, -, -⟩ := hC
  intro H ls locs st hinv
  obtain ⟨hl, hs, hH, hF, hS⟩ := hinv
  dsimp only at hl hs hH hF hS ⊢
  unfold es_one at h1
  split at h1
  · rename_i v
    have e1 := es_veq_ok h1
    subst e1
    obtain ⟨y, st', rfl, hy, hst⟩ := hs
    have e2 : st' = [] := hst
    subst e2
    have e3 : y = .int 1 := by
      have h9 : y = .int (nI 1) := hy
      rw [h9]; rfl
    subst e3
    refine va_forget hS.2.2 (W.widen (k := 600002) (n := 7302232) h3 h4 ?_)
    exact lw_ret fc.1 fc.2.1 fc.2.2.2.2.2.2.2.2.2.2.2 fc.2.2.2.2.2.2.2.2.2.2.1 hd
  · cases h1
theorem es_goW (hC : es_LW l p s m meth c b L xs D cI cJ cZ cC cM) {K : es_K} {ends : List es_E} (hr : es_run2 es_ME es_CT L 100000 194 K = some ends) (hends : ∀ E ∈ ends, es_EG p l e room_1 s m #[Value.ref b] below meth c (lw_Z below #[Value.ref b] s) D (es_TY cI cJ cZ cC cM) s.heap.size b xs (es_mL (es_ME 194)) E) : es_G p l e room_1 s m #[Value.ref b] below meth c (lw_Z below #[Value.ref b] s) D (es_TY cI cJ cZ cC cM) s.heap.size b xs (es_mL (es_ME 194)) K :=
  es_run2_ok es_G0 es_C0 100000 xs 194 K ends hr p e room_1 s m #[Value.ref b] below meth c (lw_Z below #[Value.ref b] s) hC.1 hC.2.1 hC.2.2 hends
theorem es_okW (hC : es_LW l p s m meth c b L xs D cI cJ cZ cC cM) {K : es_K} (h : es_okb (es_run2 es_ME es_CT L 100000 194 K) = true) : es_G p l e room_1 s m #[Value.ref b] below meth c (lw_Z below #[Value.ref b] s) D (es_TY cI cJ cZ cC cM) s.heap.size b xs (es_mL (es_ME 194)) K := by
  cases hr : es_run2 es_ME es_CT L 100000 194 K with
  | none => rw [hr] at h; cases h
  | some ends =>
    rw [hr] at h
    exact es_goW hC hr (fun E hE => es_fin_ok hC (List.all_eq_true.mp h E hE))
theorem es_frF {a1 b1 a2 b2 : Nat} (h1 : a1 ≤ es_zb (xs 1) ∧ es_zb (xs 1) ≤ b1) (h2 : a2 ≤ es_zb (xs 2) ∧ es_zb (xs 2) ≤ b2) : es_fr xs (es_FF a1 b1 a2 b2) := by
  have hz : ∀ k, es_zb (xs k) ≤ 4294967295 := fun k => by
    have := es_rng (xs k)
    unfold es_zb
    omega
  intro k q hq
  unfold es_FF at hq
  match k, hq with
  | 0, hq => cases hq; exact ⟨Nat.zero_le _, hz 0⟩
  | 1, hq => cases hq; exact h1
  | 2, hq => cases hq; exact h2
  | 3, hq => cases hq; exact ⟨Nat.zero_le _, hz 3⟩
  | 4, hq => cases hq; exact ⟨Nat.zero_le _, hz 4⟩
  | 5, hq => cases hq; exact ⟨Nat.zero_le _, hz 5⟩
  | k + 6, hq => simp at hq
/-- a case of the law's switch -/
def es_CW (p : Program) (l : Launch) (e : Env) (s : State) (m : MethodId) (b : Nat) (below : List Frame) (meth : Method) (c : Code) (D : va_G) (cI cJ cZ cC cM : ClassId) (xs : Nat → Int32) (pc : Nat) : Prop := ∀ (H : Heap) (ls : Array Slot) (locs : List Loc), es_inv D (es_TY cI cJ cZ cC cM) s.heap.size b xs (es_mL (es_ME 194)) s (es_K0 pc es_F0) H ls locs [] → W p l e room_1 s m #[Value.ref b] below meth c H locs 232 47168 (lw_Z below #[Value.ref b] s) (F0 m pc ls [])
theorem es_pcW (hC : es_LW l p s m meth c b 6 xs D cI cJ cZ cC cM) {pc a1 b1 a2 b2 : Nat} (h : es_okb (es_run2 es_ME es_CT 6 100000 194 (es_K0 pc (es_FF a1 b1 a2 b2))) = true) (h1 : a1 ≤ es_zb (xs 1) ∧ es_zb (xs 1) ≤ b1) (h2 : a2 ≤ es_zb (xs 2) ∧ es_zb (xs 2) ≤ b2) : es_CW p l e s m b below meth c D cI cJ cZ cC cM xs pc := by
  intro H ls locs hinv
  exact es_okW hC h H ls locs [] ⟨hinv.1, hinv.2.1, hinv.2.2.1, es_frF h1 h2, hinv.2.2.2.2⟩
theorem es_cw0 (hC : es_LW l p s m meth c b 6 xs D cI cJ cZ cC cM) : es_CW p l e s m b below meth c D cI cJ cZ cC cM xs 244 := by
  have hz1 : es_zb (xs 1) ≤ 4294967295 := by
    have := es_rng (xs 1)
    unfold es_zb
    omega
  have hz2 : es_zb (xs 2) ≤ 4294967295 := by
    have := es_rng (xs 2)
    unfold es_zb
    omega
  exact es_pcW hC es_o0_0 (by omega) (by omega)
theorem es_cw1 (hC : es_LW l p s m meth c b 6 xs D cI cJ cZ cC cM) : es_CW p l e s m b below meth c D cI cJ cZ cC cM xs 317 := by
  have hz1 : es_zb (xs 1) ≤ 4294967295 := by
    have := es_rng (xs 1)
    unfold es_zb
    omega
  have hz2 : es_zb (xs 2) ≤ 4294967295 := by
    have := es_rng (xs 2)
    unfold es_zb
    omega
  exact es_pcW hC es_o1_0 (by omega) (by omega)
theorem es_cw2 (hC : es_LW l p s m meth c b 6 xs D cI cJ cZ cC cM) : es_CW p l e s m b below meth c D cI cJ cZ cC cM xs 342 := by
  have hz1 : es_zb (xs 1) ≤ 4294967295 := by
    have := es_rng (xs 1)
    unfold es_zb
    omega
  have hz2 : es_zb (xs 2) ≤ 4294967295 := by
    have := es_rng (xs 2)
    unfold es_zb
    omega
  exact es_pcW hC es_o2_0 (by omega) (by omega)
theorem es_cw3 (hC : es_LW l p s m meth c b 6 xs D cI cJ cZ cC cM) : es_CW p l e s m b below meth c D cI cJ cZ cC cM xs 386 := by
  have hz1 : es_zb (xs 1) ≤ 4294967295 := by
    have := es_rng (xs 1)
    unfold es_zb
    omega
  have hz2 : es_zb (xs 2) ≤ 4294967295 := by
    have := es_rng (xs 2)
    unfold es_zb
    omega
  exact es_pcW hC es_o3_0 (by omega) (by omega)
theorem es_cw4 (hC : es_LW l p s m meth c b 6 xs D cI cJ cZ cC cM) : es_CW p l e s m b below meth c D cI cJ cZ cC cM xs 430 := by
  have hz1 : es_zb (xs 1) ≤ 4294967295 := by
    have := es_rng (xs 1)
    unfold es_zb
    omega
  have hz2 : es_zb (xs 2) ≤ 4294967295 := by
    have := es_rng (xs 2)
    unfold es_zb
    omega
  exact es_pcW hC es_o4_0 (by omega) (by omega)
theorem es_cw5 (hC : es_LW l p s m meth c b 6 xs D cI cJ cZ cC cM) : es_CW p l e s m b below meth c D cI cJ cZ cC cM xs 443 := by
  have hz1 : es_zb (xs 1) ≤ 4294967295 := by
    have := es_rng (xs 1)
    unfold es_zb
    omega
  have hz2 : es_zb (xs 2) ≤ 4294967295 := by
    have := es_rng (xs 2)
    unfold es_zb
    omega
  exact es_pcW hC es_o5_0 (by omega) (by omega)
theorem es_cw6 (hC : es_LW l p s m meth c b 6 xs D cI cJ cZ cC cM) : es_CW p l e s m b below meth c D cI cJ cZ cC cM xs 511 := by
  have hz1 : es_zb (xs 1) ≤ 4294967295 := by
    have := es_rng (xs 1)
    unfold es_zb
    omega
  have hz2 : es_zb (xs 2) ≤ 4294967295 := by
    have := es_rng (xs 2)
    unfold es_zb
    omega
  exact es_pcW hC es_o6_0 (by omega) (by omega)
theorem es_cw7 (hC : es_LW l p s m meth c b 6 xs D cI cJ cZ cC cM) : es_CW p l e s m b below meth c D cI cJ cZ cC cM xs 579 := by
  have hz1 : es_zb (xs 1) ≤ 4294967295 := by
    have := es_rng (xs 1)
    unfold es_zb
    omega
  have hz2 : es_zb (xs 2) ≤ 4294967295 := by
    have := es_rng (xs 2)
    unfold es_zb
    omega
  exact es_pcW hC es_o7_0 (by omega) (by omega)
theorem es_cw8 (hC : es_LW l p s m meth c b 6 xs D cI cJ cZ cC cM) : es_CW p l e s m b below meth c D cI cJ cZ cC cM xs 663 := by
  have hz1 : es_zb (xs 1) ≤ 4294967295 := by
    have := es_rng (xs 1)
    unfold es_zb
    omega
  have hz2 : es_zb (xs 2) ≤ 4294967295 := by
    have := es_rng (xs 2)
    unfold es_zb
    omega
  exact es_pcW hC es_o8_0 (by omega) (by omega)
theorem es_cw9 (hC : es_LW l p s m meth c b 6 xs D cI cJ cZ cC cM) : es_CW p l e s m b below meth c D cI cJ cZ cC cM xs 747 := by
  have hz1 : es_zb (xs 1) ≤ 4294967295 := by
    have := es_rng (xs 1)
    unfold es_zb
    omega
  have hz2 : es_zb (xs 2) ≤ 4294967295 := by
    have := es_rng (xs 2)
    unfold es_zb
    omega
  exact es_pcW hC es_o9_0 (by omega) (by omega)
theorem es_cw10 (hC : es_LW l p s m meth c b 6 xs D cI cJ cZ cC cM) : es_CW p l e s m b below meth c D cI cJ cZ cC cM xs 803 := by
  have hz1 : es_zb (xs 1) ≤ 4294967295 := by
    have := es_rng (xs 1)
    unfold es_zb
    omega
  have hz2 : es_zb (xs 2) ≤ 4294967295 := by
    have := es_rng (xs 2)
    unfold es_zb
    omega
  exact es_pcW hC es_o10_0 (by omega) (by omega)
theorem es_cw11 (hC : es_LW l p s m meth c b 6 xs D cI cJ cZ cC cM) : es_CW p l e s m b below meth c D cI cJ cZ cC cM xs 878 := by
  have hz1 : es_zb (xs 1) ≤ 4294967295 := by
    have := es_rng (xs 1)
    unfold es_zb
    omega
  have hz2 : es_zb (xs 2) ≤ 4294967295 := by
    have := es_rng (xs 2)
    unfold es_zb
    omega
  exact es_pcW hC es_o11_0 (by omega) (by omega)
theorem es_cw12 (hC : es_LW l p s m meth c b 6 xs D cI cJ cZ cC cM) : es_CW p l e s m b below meth c D cI cJ cZ cC cM xs 934 := by
  have hz1 : es_zb (xs 1) ≤ 4294967295 := by
    have := es_rng (xs 1)
    unfold es_zb
    omega
  have hz2 : es_zb (xs 2) ≤ 4294967295 := by
    have := es_rng (xs 2)
    unfold es_zb
    omega
  exact es_pcW hC es_o12_0 (by omega) (by omega)
theorem es_cw13 (hC : es_LW l p s m meth c b 6 xs D cI cJ cZ cC cM) : es_CW p l e s m b below meth c D cI cJ cZ cC cM xs 1014 := by
  have hz1 : es_zb (xs 1) ≤ 4294967295 := by
    have := es_rng (xs 1)
    unfold es_zb
    omega
  have hz2 : es_zb (xs 2) ≤ 4294967295 := by
    have := es_rng (xs 2)
    unfold es_zb
    omega
  exact es_pcW hC es_o13_0 (by omega) (by omega)
theorem es_cw14 (hC : es_LW l p s m meth c b 6 xs D cI cJ cZ cC cM) : es_CW p l e s m b below meth c D cI cJ cZ cC cM xs 1082 := by
  have hz1 : es_zb (xs 1) ≤ 4294967295 := by
    have := es_rng (xs 1)
    unfold es_zb
    omega
  have hz2 : es_zb (xs 2) ≤ 4294967295 := by
    have := es_rng (xs 2)
    unfold es_zb
    omega
  exact es_pcW hC es_o14_0 (by omega) (by omega)
theorem es_cw15 (hC : es_LW l p s m meth c b 6 xs D cI cJ cZ cC cM) : es_CW p l e s m b below meth c D cI cJ cZ cC cM xs 1138 := by
  have hz1 : es_zb (xs 1) ≤ 4294967295 := by
    have := es_rng (xs 1)
    unfold es_zb
    omega
  have hz2 : es_zb (xs 2) ≤ 4294967295 := by
    have := es_rng (xs 2)
    unfold es_zb
    omega
  exact es_pcW hC es_o15_0 (by omega) (by omega)
theorem es_cw16 (hC : es_LW l p s m meth c b 6 xs D cI cJ cZ cC cM) : es_CW p l e s m b below meth c D cI cJ cZ cC cM xs 1194 := by
  have hz1 : es_zb (xs 1) ≤ 4294967295 := by
    have := es_rng (xs 1)
    unfold es_zb
    omega
  have hz2 : es_zb (xs 2) ≤ 4294967295 := by
    have := es_rng (xs 2)
    unfold es_zb
    omega
  exact es_pcW hC es_o16_0 (by omega) (by omega)
theorem es_cw17 (hC : es_LW l p s m meth c b 6 xs D cI cJ cZ cC cM) : es_CW p l e s m b below meth c D cI cJ cZ cC cM xs 1274 := by
  have hz1 : es_zb (xs 1) ≤ 4294967295 := by
    have := es_rng (xs 1)
    unfold es_zb
    omega
  have hz2 : es_zb (xs 2) ≤ 4294967295 := by
    have := es_rng (xs 2)
    unfold es_zb
    omega
  exact es_pcW hC es_o17_0 (by omega) (by omega)
theorem es_cw18 (hC : es_LW l p s m meth c b 6 xs D cI cJ cZ cC cM) : es_CW p l e s m b below meth c D cI cJ cZ cC cM xs 1330 := by
  have hz1 : es_zb (xs 1) ≤ 4294967295 := by
    have := es_rng (xs 1)
    unfold es_zb
    omega
  have hz2 : es_zb (xs 2) ≤ 4294967295 := by
    have := es_rng (xs 2)
    unfold es_zb
    omega
  exact es_pcW hC es_o18_0 (by omega) (by omega)
theorem es_cw19 (hC : es_LW l p s m meth c b 6 xs D cI cJ cZ cC cM) : es_CW p l e s m b below meth c D cI cJ cZ cC cM xs 1386 := by
  have hz1 : es_zb (xs 1) ≤ 4294967295 := by
    have := es_rng (xs 1)
    unfold es_zb
    omega
  have hz2 : es_zb (xs 2) ≤ 4294967295 := by
    have := es_rng (xs 2)
    unfold es_zb
    omega
  exact es_pcW hC es_o19_0 (by omega) (by omega)
theorem es_cw20 (hC : es_LW l p s m meth c b 6 xs D cI cJ cZ cC cM) : es_CW p l e s m b below meth c D cI cJ cZ cC cM xs 1442 := by
  have hz1 : es_zb (xs 1) ≤ 4294967295 := by
    have := es_rng (xs 1)
    unfold es_zb
    omega
  have hz2 : es_zb (xs 2) ≤ 4294967295 := by
    have := es_rng (xs 2)
    unfold es_zb
    omega
  exact es_pcW hC es_o20_0 (by omega) (by omega)
theorem es_cw21 (hC : es_LW l p s m meth c b 6 xs D cI cJ cZ cC cM) : es_CW p l e s m b below meth c D cI cJ cZ cC cM xs 1498 := by
  have hz1 : es_zb (xs 1) ≤ 4294967295 := by
    have := es_rng (xs 1)
    unfold es_zb
    omega
  have hz2 : es_zb (xs 2) ≤ 4294967295 := by
    have := es_rng (xs 2)
    unfold es_zb
    omega
  exact es_pcW hC es_o21_0 (by omega) (by omega)
theorem es_cw22 (hC : es_LW l p s m meth c b 6 xs D cI cJ cZ cC cM) : es_CW p l e s m b below meth c D cI cJ cZ cC cM xs 1566 := by
  have hz1 : es_zb (xs 1) ≤ 4294967295 := by
    have := es_rng (xs 1)
    unfold es_zb
    omega
  have hz2 : es_zb (xs 2) ≤ 4294967295 := by
    have := es_rng (xs 2)
    unfold es_zb
    omega
  exact es_pcW hC es_o22_0 (by omega) (by omega)
theorem es_cw23 (hC : es_LW l p s m meth c b 6 xs D cI cJ cZ cC cM) : es_CW p l e s m b below meth c D cI cJ cZ cC cM xs 1634 := by
  have hz1 : es_zb (xs 1) ≤ 4294967295 := by
    have := es_rng (xs 1)
    unfold es_zb
    omega
  have hz2 : es_zb (xs 2) ≤ 4294967295 := by
    have := es_rng (xs 2)
    unfold es_zb
    omega
  exact es_pcW hC es_o23_0 (by omega) (by omega)
theorem es_cw24 (hC : es_LW l p s m meth c b 6 xs D cI cJ cZ cC cM) : es_CW p l e s m b below meth c D cI cJ cZ cC cM xs 1709 := by
  have hz1 : es_zb (xs 1) ≤ 4294967295 := by
    have := es_rng (xs 1)
    unfold es_zb
    omega
  have hz2 : es_zb (xs 2) ≤ 4294967295 := by
    have := es_rng (xs 2)
    unfold es_zb
    omega
  exact es_pcW hC es_o24_0 (by omega) (by omega)
theorem es_cw25 (hC : es_LW l p s m meth c b 6 xs D cI cJ cZ cC cM) : es_CW p l e s m b below meth c D cI cJ cZ cC cM xs 1765 := by
  have hz1 : es_zb (xs 1) ≤ 4294967295 := by
    have := es_rng (xs 1)
    unfold es_zb
    omega
  have hz2 : es_zb (xs 2) ≤ 4294967295 := by
    have := es_rng (xs 2)
    unfold es_zb
    omega
  exact es_pcW hC es_o25_0 (by omega) (by omega)
theorem es_cw26 (hC : es_LW l p s m meth c b 6 xs D cI cJ cZ cC cM) : es_CW p l e s m b below meth c D cI cJ cZ cC cM xs 1849 := by
  have hz1 : es_zb (xs 1) ≤ 4294967295 := by
    have := es_rng (xs 1)
    unfold es_zb
    omega
  have hz2 : es_zb (xs 2) ≤ 4294967295 := by
    have := es_rng (xs 2)
    unfold es_zb
    omega
  exact es_pcW hC es_o26_0 (by omega) (by omega)
theorem es_cw27 (hC : es_LW l p s m meth c b 6 xs D cI cJ cZ cC cM) : es_CW p l e s m b below meth c D cI cJ cZ cC cM xs 1905 := by
  have hz1 : es_zb (xs 1) ≤ 4294967295 := by
    have := es_rng (xs 1)
    unfold es_zb
    omega
  have hz2 : es_zb (xs 2) ≤ 4294967295 := by
    have := es_rng (xs 2)
    unfold es_zb
    omega
  by_cases g0 : es_zb (xs 1) ≤ 2147483647
  · exact es_pcW hC es_o27_0 (by omega) (by omega)
  by_cases g1 : es_zb (xs 1) ≤ 2147483648
  · exact es_pcW hC es_o27_1 (by omega) (by omega)
  exact es_pcW hC es_o27_2 (by omega) (by omega)
theorem es_cw28 (hC : es_LW l p s m meth c b 6 xs D cI cJ cZ cC cM) : es_CW p l e s m b below meth c D cI cJ cZ cC cM xs 1977 := by
  have hz1 : es_zb (xs 1) ≤ 4294967295 := by
    have := es_rng (xs 1)
    unfold es_zb
    omega
  have hz2 : es_zb (xs 2) ≤ 4294967295 := by
    have := es_rng (xs 2)
    unfold es_zb
    omega
  exact es_pcW hC es_o28_0 (by omega) (by omega)
theorem es_cw29 (hC : es_LW l p s m meth c b 6 xs D cI cJ cZ cC cM) : es_CW p l e s m b below meth c D cI cJ cZ cC cM xs 2021 := by
  have hz1 : es_zb (xs 1) ≤ 4294967295 := by
    have := es_rng (xs 1)
    unfold es_zb
    omega
  have hz2 : es_zb (xs 2) ≤ 4294967295 := by
    have := es_rng (xs 2)
    unfold es_zb
    omega
  exact es_pcW hC es_o29_0 (by omega) (by omega)
theorem es_cw30 (hC : es_LW l p s m meth c b 6 xs D cI cJ cZ cC cM) : es_CW p l e s m b below meth c D cI cJ cZ cC cM xs 2089 := by
  have hz1 : es_zb (xs 1) ≤ 4294967295 := by
    have := es_rng (xs 1)
    unfold es_zb
    omega
  have hz2 : es_zb (xs 2) ≤ 4294967295 := by
    have := es_rng (xs 2)
    unfold es_zb
    omega
  by_cases g0 : es_zb (xs 1) ≤ 2147483647
  · exact es_pcW hC es_o30_0 (by omega) (by omega)
  by_cases g1 : es_zb (xs 1) ≤ 2147483648
  · exact es_pcW hC es_o30_1 (by omega) (by omega)
  by_cases g2 : es_zb (xs 1) ≤ 2147483649
  · exact es_pcW hC es_o30_2 (by omega) (by omega)
  by_cases g3 : es_zb (xs 1) ≤ 2147483650
  · exact es_pcW hC es_o30_3 (by omega) (by omega)
  by_cases g4 : es_zb (xs 1) ≤ 2147483651
  · exact es_pcW hC es_o30_4 (by omega) (by omega)
  by_cases g5 : es_zb (xs 1) ≤ 2147483652
  · by_cases q5 : es_zb (xs 2) ≤ 2147483647
    · exact es_pcW hC es_o30_5 (by omega) (by omega)
    by_cases q6 : es_zb (xs 2) ≤ 2147483648
    · exact es_pcW hC es_o30_6 (by omega) (by omega)
    by_cases q7 : es_zb (xs 2) ≤ 2147483649
    · exact es_pcW hC es_o30_7 (by omega) (by omega)
    by_cases q8 : es_zb (xs 2) ≤ 2147483650
    · exact es_pcW hC es_o30_8 (by omega) (by omega)
    by_cases q9 : es_zb (xs 2) ≤ 2147483651
    · exact es_pcW hC es_o30_9 (by omega) (by omega)
    by_cases q10 : es_zb (xs 2) ≤ 2147483652
    · exact es_pcW hC es_o30_10 (by omega) (by omega)
    by_cases q11 : es_zb (xs 2) ≤ 2147483653
    · exact es_pcW hC es_o30_11 (by omega) (by omega)
    exact es_pcW hC es_o30_12 (by omega) (by omega)
  by_cases g6 : es_zb (xs 1) ≤ 2147483653
  · by_cases q13 : es_zb (xs 2) ≤ 2147483647
    · exact es_pcW hC es_o30_13 (by omega) (by omega)
    by_cases q14 : es_zb (xs 2) ≤ 2147483648
    · exact es_pcW hC es_o30_14 (by omega) (by omega)
    by_cases q15 : es_zb (xs 2) ≤ 2147483649
    · exact es_pcW hC es_o30_15 (by omega) (by omega)
    by_cases q16 : es_zb (xs 2) ≤ 2147483650
    · exact es_pcW hC es_o30_16 (by omega) (by omega)
    by_cases q17 : es_zb (xs 2) ≤ 2147483651
    · exact es_pcW hC es_o30_17 (by omega) (by omega)
    by_cases q18 : es_zb (xs 2) ≤ 2147483652
    · exact es_pcW hC es_o30_18 (by omega) (by omega)
    by_cases q19 : es_zb (xs 2) ≤ 2147483653
    · exact es_pcW hC es_o30_19 (by omega) (by omega)
    exact es_pcW hC es_o30_20 (by omega) (by omega)
  exact es_pcW hC es_o30_21 (by omega) (by omega)
theorem es_cw31 (hC : es_LW l p s m meth c b 6 xs D cI cJ cZ cC cM) : es_CW p l e s m b below meth c D cI cJ cZ cC cM xs 2157 := by
  have hz1 : es_zb (xs 1) ≤ 4294967295 := by
    have := es_rng (xs 1)
    unfold es_zb
    omega
  have hz2 : es_zb (xs 2) ≤ 4294967295 := by
    have := es_rng (xs 2)
    unfold es_zb
    omega
  by_cases g0 : es_zb (xs 1) ≤ 2147483647
  · exact es_pcW hC es_o31_0 (by omega) (by omega)
  by_cases g1 : es_zb (xs 1) ≤ 2147483648
  · exact es_pcW hC es_o31_1 (by omega) (by omega)
  exact es_pcW hC es_o31_2 (by omega) (by omega)
theorem es_cw32 (hC : es_LW l p s m meth c b 6 xs D cI cJ cZ cC cM) : es_CW p l e s m b below meth c D cI cJ cZ cC cM xs 2198 := by
  have hz1 : es_zb (xs 1) ≤ 4294967295 := by
    have := es_rng (xs 1)
    unfold es_zb
    omega
  have hz2 : es_zb (xs 2) ≤ 4294967295 := by
    have := es_rng (xs 2)
    unfold es_zb
    omega
  by_cases g0 : es_zb (xs 1) ≤ 2147483647
  · exact es_pcW hC es_o32_0 (by omega) (by omega)
  by_cases g1 : es_zb (xs 1) ≤ 2147483648
  · exact es_pcW hC es_o32_1 (by omega) (by omega)
  exact es_pcW hC es_o32_2 (by omega) (by omega)
theorem es_cw33 (hC : es_LW l p s m meth c b 6 xs D cI cJ cZ cC cM) : es_CW p l e s m b below meth c D cI cJ cZ cC cM xs 2254 := by
  have hz1 : es_zb (xs 1) ≤ 4294967295 := by
    have := es_rng (xs 1)
    unfold es_zb
    omega
  have hz2 : es_zb (xs 2) ≤ 4294967295 := by
    have := es_rng (xs 2)
    unfold es_zb
    omega
  exact es_pcW hC es_o33_0 (by omega) (by omega)
theorem es_cw34 (hC : es_LW l p s m meth c b 6 xs D cI cJ cZ cC cM) : es_CW p l e s m b below meth c D cI cJ cZ cC cM xs 2267 := by
  have hz1 : es_zb (xs 1) ≤ 4294967295 := by
    have := es_rng (xs 1)
    unfold es_zb
    omega
  have hz2 : es_zb (xs 2) ≤ 4294967295 := by
    have := es_rng (xs 2)
    unfold es_zb
    omega
  exact es_pcW hC es_o34_0 (by omega) (by omega)
theorem es_cw35 (hC : es_LW l p s m meth c b 6 xs D cI cJ cZ cC cM) : es_CW p l e s m b below meth c D cI cJ cZ cC cM xs 2280 := by
  have hz1 : es_zb (xs 1) ≤ 4294967295 := by
    have := es_rng (xs 1)
    unfold es_zb
    omega
  have hz2 : es_zb (xs 2) ≤ 4294967295 := by
    have := es_rng (xs 2)
    unfold es_zb
    omega
  exact es_pcW hC es_o35_0 (by omega) (by omega)
theorem es_cw36 (hC : es_LW l p s m meth c b 6 xs D cI cJ cZ cC cM) : es_CW p l e s m b below meth c D cI cJ cZ cC cM xs 2336 := by
  have hz1 : es_zb (xs 1) ≤ 4294967295 := by
    have := es_rng (xs 1)
    unfold es_zb
    omega
  have hz2 : es_zb (xs 2) ≤ 4294967295 := by
    have := es_rng (xs 2)
    unfold es_zb
    omega
  exact es_pcW hC es_o36_0 (by omega) (by omega)
theorem es_cw37 (hC : es_LW l p s m meth c b 6 xs D cI cJ cZ cC cM) : es_CW p l e s m b below meth c D cI cJ cZ cC cM xs 2349 := by
  have hz1 : es_zb (xs 1) ≤ 4294967295 := by
    have := es_rng (xs 1)
    unfold es_zb
    omega
  have hz2 : es_zb (xs 2) ≤ 4294967295 := by
    have := es_rng (xs 2)
    unfold es_zb
    omega
  exact es_pcW hC es_o37_0 (by omega) (by omega)
theorem es_cw38 (hC : es_LW l p s m meth c b 6 xs D cI cJ cZ cC cM) : es_CW p l e s m b below meth c D cI cJ cZ cC cM xs 2390 := by
  have hz1 : es_zb (xs 1) ≤ 4294967295 := by
    have := es_rng (xs 1)
    unfold es_zb
    omega
  have hz2 : es_zb (xs 2) ≤ 4294967295 := by
    have := es_rng (xs 2)
    unfold es_zb
    omega
  by_cases q0 : es_zb (xs 2) ≤ 2147483647
  · exact es_pcW hC es_o38_0 (by omega) (by omega)
  by_cases q1 : es_zb (xs 2) ≤ 2147483648
  · exact es_pcW hC es_o38_1 (by omega) (by omega)
  exact es_pcW hC es_o38_2 (by omega) (by omega)
theorem es_cw39 (hC : es_LW l p s m meth c b 6 xs D cI cJ cZ cC cM) : es_CW p l e s m b below meth c D cI cJ cZ cC cM xs 2474 := by
  have hz1 : es_zb (xs 1) ≤ 4294967295 := by
    have := es_rng (xs 1)
    unfold es_zb
    omega
  have hz2 : es_zb (xs 2) ≤ 4294967295 := by
    have := es_rng (xs 2)
    unfold es_zb
    omega
  by_cases q0 : es_zb (xs 2) ≤ 2147483647
  · exact es_pcW hC es_o39_0 (by omega) (by omega)
  by_cases q1 : es_zb (xs 2) ≤ 2147483648
  · exact es_pcW hC es_o39_1 (by omega) (by omega)
  exact es_pcW hC es_o39_2 (by omega) (by omega)
theorem es_cw40 (hC : es_LW l p s m meth c b 6 xs D cI cJ cZ cC cM) : es_CW p l e s m b below meth c D cI cJ cZ cC cM xs 2558 := by
  have hz1 : es_zb (xs 1) ≤ 4294967295 := by
    have := es_rng (xs 1)
    unfold es_zb
    omega
  have hz2 : es_zb (xs 2) ≤ 4294967295 := by
    have := es_rng (xs 2)
    unfold es_zb
    omega
  exact es_pcW hC es_o40_0 (by omega) (by omega)
theorem es_cw41 (hC : es_LW l p s m meth c b 6 xs D cI cJ cZ cC cM) : es_CW p l e s m b below meth c D cI cJ cZ cC cM xs 2642 := by
  have hz1 : es_zb (xs 1) ≤ 4294967295 := by
    have := es_rng (xs 1)
    unfold es_zb
    omega
  have hz2 : es_zb (xs 2) ≤ 4294967295 := by
    have := es_rng (xs 2)
    unfold es_zb
    omega
  exact es_pcW hC es_o41_0 (by omega) (by omega)
theorem es_cw42 (hC : es_LW l p s m meth c b 6 xs D cI cJ cZ cC cM) : es_CW p l e s m b below meth c D cI cJ cZ cC cM xs 2710 := by
  have hz1 : es_zb (xs 1) ≤ 4294967295 := by
    have := es_rng (xs 1)
    unfold es_zb
    omega
  have hz2 : es_zb (xs 2) ≤ 4294967295 := by
    have := es_rng (xs 2)
    unfold es_zb
    omega
  exact es_pcW hC es_o42_0 (by omega) (by omega)
theorem es_cw43 (hC : es_LW l p s m meth c b 6 xs D cI cJ cZ cC cM) : es_CW p l e s m b below meth c D cI cJ cZ cC cM xs 2735 := by
  have hz1 : es_zb (xs 1) ≤ 4294967295 := by
    have := es_rng (xs 1)
    unfold es_zb
    omega
  have hz2 : es_zb (xs 2) ≤ 4294967295 := by
    have := es_rng (xs 2)
    unfold es_zb
    omega
  exact es_pcW hC es_o43_0 (by omega) (by omega)
theorem es_cw44 (hC : es_LW l p s m meth c b 6 xs D cI cJ cZ cC cM) : es_CW p l e s m b below meth c D cI cJ cZ cC cM xs 2748 := by
  have hz1 : es_zb (xs 1) ≤ 4294967295 := by
    have := es_rng (xs 1)
    unfold es_zb
    omega
  have hz2 : es_zb (xs 2) ≤ 4294967295 := by
    have := es_rng (xs 2)
    unfold es_zb
    omega
  exact es_pcW hC es_o44_0 (by omega) (by omega)
theorem es_cw45 (hC : es_LW l p s m meth c b 6 xs D cI cJ cZ cC cM) : es_CW p l e s m b below meth c D cI cJ cZ cC cM xs 2759 := by
  have hz1 : es_zb (xs 1) ≤ 4294967295 := by
    have := es_rng (xs 1)
    unfold es_zb
    omega
  have hz2 : es_zb (xs 2) ≤ 4294967295 := by
    have := es_rng (xs 2)
    unfold es_zb
    omega
  exact es_pcW hC es_o45_0 (by omega) (by omega)
theorem es_cw46 (hC : es_LW l p s m meth c b 6 xs D cI cJ cZ cC cM) : es_CW p l e s m b below meth c D cI cJ cZ cC cM xs 2772 := by
  have hz1 : es_zb (xs 1) ≤ 4294967295 := by
    have := es_rng (xs 1)
    unfold es_zb
    omega
  have hz2 : es_zb (xs 2) ≤ 4294967295 := by
    have := es_rng (xs 2)
    unfold es_zb
    omega
  by_cases g0 : es_zb (xs 1) ≤ 2147483647
  · exact es_pcW hC es_o46_0 (by omega) (by omega)
  by_cases g1 : es_zb (xs 1) ≤ 2147483648
  · exact es_pcW hC es_o46_1 (by omega) (by omega)
  by_cases g2 : es_zb (xs 1) ≤ 2147483649
  · exact es_pcW hC es_o46_2 (by omega) (by omega)
  by_cases g3 : es_zb (xs 1) ≤ 2147483650
  · exact es_pcW hC es_o46_3 (by omega) (by omega)
  by_cases g4 : es_zb (xs 1) ≤ 2147483651
  · exact es_pcW hC es_o46_4 (by omega) (by omega)
  by_cases g5 : es_zb (xs 1) ≤ 2147483652
  · exact es_pcW hC es_o46_5 (by omega) (by omega)
  by_cases g6 : es_zb (xs 1) ≤ 2147483653
  · exact es_pcW hC es_o46_6 (by omega) (by omega)
  by_cases g7 : es_zb (xs 1) ≤ 2147483654
  · exact es_pcW hC es_o46_7 (by omega) (by omega)
  by_cases g8 : es_zb (xs 1) ≤ 2147483655
  · exact es_pcW hC es_o46_8 (by omega) (by omega)
  by_cases g9 : es_zb (xs 1) ≤ 2147483656
  · exact es_pcW hC es_o46_9 (by omega) (by omega)
  by_cases g10 : es_zb (xs 1) ≤ 2147483657
  · exact es_pcW hC es_o46_10 (by omega) (by omega)
  by_cases g11 : es_zb (xs 1) ≤ 2147483658
  · exact es_pcW hC es_o46_11 (by omega) (by omega)
  by_cases g12 : es_zb (xs 1) ≤ 2147483659
  · exact es_pcW hC es_o46_12 (by omega) (by omega)
  by_cases g13 : es_zb (xs 1) ≤ 2147483660
  · exact es_pcW hC es_o46_13 (by omega) (by omega)
  by_cases g14 : es_zb (xs 1) ≤ 2147483661
  · exact es_pcW hC es_o46_14 (by omega) (by omega)
  by_cases g15 : es_zb (xs 1) ≤ 2147483662
  · exact es_pcW hC es_o46_15 (by omega) (by omega)
  by_cases g16 : es_zb (xs 1) ≤ 2147483663
  · exact es_pcW hC es_o46_16 (by omega) (by omega)
  exact es_pcW hC es_o46_17 (by omega) (by omega)
theorem es_cw47 (hC : es_LW l p s m meth c b 6 xs D cI cJ cZ cC cM) : es_CW p l e s m b below meth c D cI cJ cZ cC cM xs 2797 := by
  have hz1 : es_zb (xs 1) ≤ 4294967295 := by
    have := es_rng (xs 1)
    unfold es_zb
    omega
  have hz2 : es_zb (xs 2) ≤ 4294967295 := by
    have := es_rng (xs 2)
    unfold es_zb
    omega
  exact es_pcW hC es_o47_0 (by omega) (by omega)
theorem es_d39 : decode code 39 = .ok (.iand, 1) := by decide +kernel
theorem es_d40 : decode code 40 = .ok (.tableswitch 2757 0 46 #[204, 277, 302, 346, 390, 403, 471, 539, 623, 707, 763, 838, 894, 974, 1042, 1098, 1154, 1234, 1290, 1346, 1402, 1458, 1526, 1594, 1669, 1725, 1809, 1865, 1937, 1981, 2049, 2117, 2158, 2214, 2227, 2240, 2296, 2309, 2350, 2434, 2518, 2602, 2670, 2695, 2708, 2719, 2732], 204) := by decide +kernel
theorem es_and63 (x : Int32) : x &&& nI 63 = nI (x.toBitVec.toNat &&& 63) := by
  apply Int32.toBitVec_inj.mp
  show x.toBitVec &&& BitVec.ofNat 32 63 = BitVec.ofNat 32 (x.toBitVec.toNat &&& 63)
  apply BitVec.eq_of_toNat_eq
  rw [BitVec.toNat_and, BitVec.toNat_ofNat, BitVec.toNat_ofNat, Nat.mod_eq_of_lt (a := 63) (by decide)]
  exact (Nat.mod_eq_of_lt (Nat.lt_of_le_of_lt Nat.and_le_right (by decide))).symm
theorem es_jump (hC : es_LW l p s m meth c b 6 xs D cI cJ cZ cC cM) (n : Nat) (hn : n < 64) {H : Heap} {ls : Array Slot} {locs : List Loc} (hinv : ∀ pc, es_inv D (es_TY cI cJ cZ cC cM) s.heap.size b xs (es_mL (es_ME 194)) s (es_K0 pc es_F0) H ls locs []) : W p l e room_1 s m #[Value.ref b] below meth c H locs 232 47168 (lw_Z below #[Value.ref b] s) (F0 m 40 ls [.int (nI n)]) := by
  have hx := hC.1.1
  have hb : c.code = code := hC.1.2.1
  match n, hn with
  | 0, _ => exact lv_tableIn hx hb es_d40 (by decide) (by decide) (off := 204) (by decide +kernel) (tgt := 244) (by decide) (es_cw0 hC H ls locs (hinv _))
  | 1, _ => exact lv_tableIn hx hb es_d40 (by decide) (by decide) (off := 277) (by decide +kernel) (tgt := 317) (by decide) (es_cw1 hC H ls locs (hinv _))
  | 2, _ => exact lv_tableIn hx hb es_d40 (by decide) (by decide) (off := 302) (by decide +kernel) (tgt := 342) (by decide) (es_cw2 hC H ls locs (hinv _))
  | 3, _ => exact lv_tableIn hx hb es_d40 (by decide) (by decide) (off := 346) (by decide +kernel) (tgt := 386) (by decide) (es_cw3 hC H ls locs (hinv _))
  | 4, _ => exact lv_tableIn hx hb es_d40 (by decide) (by decide) (off := 390) (by decide +kernel) (tgt := 430) (by decide) (es_cw4 hC H ls locs (hinv _))
  | 5, _ => exact lv_tableIn hx hb es_d40 (by decide) (by decide) (off := 403) (by decide +kernel) (tgt := 443) (by decide) (es_cw5 hC H ls locs (hinv _))
  | 6, _ => exact lv_tableIn hx hb es_d40 (by decide) (by decide) (off := 471) (by decide +kernel) (tgt := 511) (by decide) (es_cw6 hC H ls locs (hinv _))
  | 7, _ => exact lv_tableIn hx hb es_d40 (by decide) (by decide) (off := 539) (by decide +kernel) (tgt := 579) (by decide) (es_cw7 hC H ls locs (hinv _))
  | 8, _ => exact lv_tableIn hx hb es_d40 (by decide) (by decide) (off := 623) (by decide +kernel) (tgt := 663) (by decide) (es_cw8 hC H ls locs (hinv _))
  | 9, _ => exact lv_tableIn hx hb es_d40 (by decide) (by decide) (off := 707) (by decide +kernel) (tgt := 747) (by decide) (es_cw9 hC H ls locs (hinv _))
  | 10, _ => exact lv_tableIn hx hb es_d40 (by decide) (by decide) (off := 763) (by decide +kernel) (tgt := 803) (by decide) (es_cw10 hC H ls locs (hinv _))
  | 11, _ => exact lv_tableIn hx hb es_d40 (by decide) (by decide) (off := 838) (by decide +kernel) (tgt := 878) (by decide) (es_cw11 hC H ls locs (hinv _))
  | 12, _ => exact lv_tableIn hx hb es_d40 (by decide) (by decide) (off := 894) (by decide +kernel) (tgt := 934) (by decide) (es_cw12 hC H ls locs (hinv _))
  | 13, _ => exact lv_tableIn hx hb es_d40 (by decide) (by decide) (off := 974) (by decide +kernel) (tgt := 1014) (by decide) (es_cw13 hC H ls locs (hinv _))
  | 14, _ => exact lv_tableIn hx hb es_d40 (by decide) (by decide) (off := 1042) (by decide +kernel) (tgt := 1082) (by decide) (es_cw14 hC H ls locs (hinv _))
  | 15, _ => exact lv_tableIn hx hb es_d40 (by decide) (by decide) (off := 1098) (by decide +kernel) (tgt := 1138) (by decide) (es_cw15 hC H ls locs (hinv _))
  | 16, _ => exact lv_tableIn hx hb es_d40 (by decide) (by decide) (off := 1154) (by decide +kernel) (tgt := 1194) (by decide) (es_cw16 hC H ls locs (hinv _))
  | 17, _ => exact lv_tableIn hx hb es_d40 (by decide) (by decide) (off := 1234) (by decide +kernel) (tgt := 1274) (by decide) (es_cw17 hC H ls locs (hinv _))
  | 18, _ => exact lv_tableIn hx hb es_d40 (by decide) (by decide) (off := 1290) (by decide +kernel) (tgt := 1330) (by decide) (es_cw18 hC H ls locs (hinv _))
  | 19, _ => exact lv_tableIn hx hb es_d40 (by decide) (by decide) (off := 1346) (by decide +kernel) (tgt := 1386) (by decide) (es_cw19 hC H ls locs (hinv _))
  | 20, _ => exact lv_tableIn hx hb es_d40 (by decide) (by decide) (off := 1402) (by decide +kernel) (tgt := 1442) (by decide) (es_cw20 hC H ls locs (hinv _))
  | 21, _ => exact lv_tableIn hx hb es_d40 (by decide) (by decide) (off := 1458) (by decide +kernel) (tgt := 1498) (by decide) (es_cw21 hC H ls locs (hinv _))
  | 22, _ => exact lv_tableIn hx hb es_d40 (by decide) (by decide) (off := 1526) (by decide +kernel) (tgt := 1566) (by decide) (es_cw22 hC H ls locs (hinv _))
  | 23, _ => exact lv_tableIn hx hb es_d40 (by decide) (by decide) (off := 1594) (by decide +kernel) (tgt := 1634) (by decide) (es_cw23 hC H ls locs (hinv _))
  | 24, _ => exact lv_tableIn hx hb es_d40 (by decide) (by decide) (off := 1669) (by decide +kernel) (tgt := 1709) (by decide) (es_cw24 hC H ls locs (hinv _))
  | 25, _ => exact lv_tableIn hx hb es_d40 (by decide) (by decide) (off := 1725) (by decide +kernel) (tgt := 1765) (by decide) (es_cw25 hC H ls locs (hinv _))
  | 26, _ => exact lv_tableIn hx hb es_d40 (by decide) (by decide) (off := 1809) (by decide +kernel) (tgt := 1849) (by decide) (es_cw26 hC H ls locs (hinv _))
  | 27, _ => exact lv_tableIn hx hb es_d40 (by decide) (by decide) (off := 1865) (by decide +kernel) (tgt := 1905) (by decide) (es_cw27 hC H ls locs (hinv _))
  | 28, _ => exact lv_tableIn hx hb es_d40 (by decide) (by decide) (off := 1937) (by decide +kernel) (tgt := 1977) (by decide) (es_cw28 hC H ls locs (hinv _))
  | 29, _ => exact lv_tableIn hx hb es_d40 (by decide) (by decide) (off := 1981) (by decide +kernel) (tgt := 2021) (by decide) (es_cw29 hC H ls locs (hinv _))
  | 30, _ => exact lv_tableIn hx hb es_d40 (by decide) (by decide) (off := 2049) (by decide +kernel) (tgt := 2089) (by decide) (es_cw30 hC H ls locs (hinv _))
  | 31, _ => exact lv_tableIn hx hb es_d40 (by decide) (by decide) (off := 2117) (by decide +kernel) (tgt := 2157) (by decide) (es_cw31 hC H ls locs (hinv _))
  | 32, _ => exact lv_tableIn hx hb es_d40 (by decide) (by decide) (off := 2158) (by decide +kernel) (tgt := 2198) (by decide) (es_cw32 hC H ls locs (hinv _))
  | 33, _ => exact lv_tableIn hx hb es_d40 (by decide) (by decide) (off := 2214) (by decide +kernel) (tgt := 2254) (by decide) (es_cw33 hC H ls locs (hinv _))
  | 34, _ => exact lv_tableIn hx hb es_d40 (by decide) (by decide) (off := 2227) (by decide +kernel) (tgt := 2267) (by decide) (es_cw34 hC H ls locs (hinv _))
  | 35, _ => exact lv_tableIn hx hb es_d40 (by decide) (by decide) (off := 2240) (by decide +kernel) (tgt := 2280) (by decide) (es_cw35 hC H ls locs (hinv _))
  | 36, _ => exact lv_tableIn hx hb es_d40 (by decide) (by decide) (off := 2296) (by decide +kernel) (tgt := 2336) (by decide) (es_cw36 hC H ls locs (hinv _))
  | 37, _ => exact lv_tableIn hx hb es_d40 (by decide) (by decide) (off := 2309) (by decide +kernel) (tgt := 2349) (by decide) (es_cw37 hC H ls locs (hinv _))
  | 38, _ => exact lv_tableIn hx hb es_d40 (by decide) (by decide) (off := 2350) (by decide +kernel) (tgt := 2390) (by decide) (es_cw38 hC H ls locs (hinv _))
  | 39, _ => exact lv_tableIn hx hb es_d40 (by decide) (by decide) (off := 2434) (by decide +kernel) (tgt := 2474) (by decide) (es_cw39 hC H ls locs (hinv _))
  | 40, _ => exact lv_tableIn hx hb es_d40 (by decide) (by decide) (off := 2518) (by decide +kernel) (tgt := 2558) (by decide) (es_cw40 hC H ls locs (hinv _))
  | 41, _ => exact lv_tableIn hx hb es_d40 (by decide) (by decide) (off := 2602) (by decide +kernel) (tgt := 2642) (by decide) (es_cw41 hC H ls locs (hinv _))
  | 42, _ => exact lv_tableIn hx hb es_d40 (by decide) (by decide) (off := 2670) (by decide +kernel) (tgt := 2710) (by decide) (es_cw42 hC H ls locs (hinv _))
  | 43, _ => exact lv_tableIn hx hb es_d40 (by decide) (by decide) (off := 2695) (by decide +kernel) (tgt := 2735) (by decide) (es_cw43 hC H ls locs (hinv _))
  | 44, _ => exact lv_tableIn hx hb es_d40 (by decide) (by decide) (off := 2708) (by decide +kernel) (tgt := 2748) (by decide) (es_cw44 hC H ls locs (hinv _))
  | 45, _ => exact lv_tableIn hx hb es_d40 (by decide) (by decide) (off := 2719) (by decide +kernel) (tgt := 2759) (by decide) (es_cw45 hC H ls locs (hinv _))
  | 46, _ => exact lv_tableIn hx hb es_d40 (by decide) (by decide) (off := 2732) (by decide +kernel) (tgt := 2772) (by decide) (es_cw46 hC H ls locs (hinv _))
  | 47, _ => exact lv_tableOut hx hb es_d40 (by decide) (tgt := 2797) (by decide) (es_cw47 hC H ls locs (hinv _))
  | 48, _ => exact lv_tableOut hx hb es_d40 (by decide) (tgt := 2797) (by decide) (es_cw47 hC H ls locs (hinv _))
  | 49, _ => exact lv_tableOut hx hb es_d40 (by decide) (tgt := 2797) (by decide) (es_cw47 hC H ls locs (hinv _))
  | 50, _ => exact lv_tableOut hx hb es_d40 (by decide) (tgt := 2797) (by decide) (es_cw47 hC H ls locs (hinv _))
  | 51, _ => exact lv_tableOut hx hb es_d40 (by decide) (tgt := 2797) (by decide) (es_cw47 hC H ls locs (hinv _))
  | 52, _ => exact lv_tableOut hx hb es_d40 (by decide) (tgt := 2797) (by decide) (es_cw47 hC H ls locs (hinv _))
  | 53, _ => exact lv_tableOut hx hb es_d40 (by decide) (tgt := 2797) (by decide) (es_cw47 hC H ls locs (hinv _))
  | 54, _ => exact lv_tableOut hx hb es_d40 (by decide) (tgt := 2797) (by decide) (es_cw47 hC H ls locs (hinv _))
  | 55, _ => exact lv_tableOut hx hb es_d40 (by decide) (tgt := 2797) (by decide) (es_cw47 hC H ls locs (hinv _))
  | 56, _ => exact lv_tableOut hx hb es_d40 (by decide) (tgt := 2797) (by decide) (es_cw47 hC H ls locs (hinv _))
  | 57, _ => exact lv_tableOut hx hb es_d40 (by decide) (tgt := 2797) (by decide) (es_cw47 hC H ls locs (hinv _))
  | 58, _ => exact lv_tableOut hx hb es_d40 (by decide) (tgt := 2797) (by decide) (es_cw47 hC H ls locs (hinv _))
  | 59, _ => exact lv_tableOut hx hb es_d40 (by decide) (tgt := 2797) (by decide) (es_cw47 hC H ls locs (hinv _))
  | 60, _ => exact lv_tableOut hx hb es_d40 (by decide) (tgt := 2797) (by decide) (es_cw47 hC H ls locs (hinv _))
  | 61, _ => exact lv_tableOut hx hb es_d40 (by decide) (tgt := 2797) (by decide) (es_cw47 hC H ls locs (hinv _))
  | 62, _ => exact lv_tableOut hx hb es_d40 (by decide) (tgt := 2797) (by decide) (es_cw47 hC H ls locs (hinv _))
  | 63, _ => exact lv_tableOut hx hb es_d40 (by decide) (tgt := 2797) (by decide) (es_cw47 hC H ls locs (hinv _))
  | n + 64, h => exact absurd h (by omega)
theorem es_six (hC : es_LW l p s m meth c b 6 xs D cI cJ cZ cC cM) : es_G p l e room_1 s m #[Value.ref b] below meth c (lw_Z below #[Value.ref b] s) D (es_TY cI cJ cZ cC cM) s.heap.size b xs (es_mL (es_ME 194)) (0, [(0, (5, 0))], [], [], es_F0, 0, 0) := by
  refine es_goW hC (es_is_eq es_pre6) (fun E hE => ?_)
  rw [List.mem_singleton.mp hE]
  intro H ls locs st hinv
  obtain ⟨hl, hs, hH, hF, hS⟩ := hinv
  dsimp only at hl hs hH hF hS ⊢
  obtain ⟨y, st1, rfl, hy, z, st2, rfl, hz, hst⟩ := hs
  have e1 : st2 = [] := hst
  subst e1
  have e2 : y = .int (nI 63) := hy
  subst e2
  have e3 : z = .int (xs 0) := hz
  subst e3
  have hx := hC.1.1
  have hb : c.code = code := hC.1.2.1
  refine lv_iand hx hb es_d39 ?_
  rw [es_and63]
  exact es_jump hC _ (Nat.lt_of_le_of_lt Nat.and_le_right (by decide)) (fun pc => ⟨hl, rfl, hH, hF, hS⟩)
end Law
theorem whole_start {p : Program} {e : Env} {s : State} {m : MethodId} {below : List Frame} {meth : Method} {c : Code} (l : Launch) (htr : l.stackTraces = false) {b L : Nat} {xs : Nat → Int32} (hL : L ≤ 6) (C0 : lw_At p s m meth c b L xs) : W p l e room_1 s m #[Value.ref b] below meth c s.heap [] 0 0 (lw_Z below #[Value.ref b] s) (entryFrame m ([Value.ref b] : List Value).toArray 7) := by
  obtain ⟨hx, hb, hr, hml, hown, hts, hX, hbl, hlocks, hgv, htab⟩ := C0
  obtain ⟨D, cI, cJ, cZ, cC, cM, hev⟩ := es_ev0 l htr hts hX hbl hgv
  have hC : es_LW l p s m meth c b L xs D cI cJ cZ cC cM := ⟨⟨hx, hb, hml, hown, fun w hw => hts w (es_WSt w hw), hev.1, ⟨Nat.le_refl _, Nat.le_refl _, Nat.le_refl _, Nat.le_refl _⟩, fun h => absurd h (by decide +kernel), hev.2.1, hev.2.2.1, hlocks, hr⟩, hev, by
    show c.exceptionTable.toList = []
    exact List.eq_nil_iff_forall_not_mem.mpr htab⟩
  have hent := lv_entry ([.ref b]) (n := 7) (Nat.le_of_ble_eq_true rfl)
  rw [lg_entry_eq]
  generalize (lg_sl ([.ref b]) ++ List.replicate (7 - (lg_sl ([.ref b])).length) Slot.unset).toArray = ls at hent ⊢
  have hG : es_G p l e room_1 s m #[Value.ref b] below meth c (lw_Z below #[Value.ref b] s) D (es_TY cI cJ cZ cC cM) s.heap.size b xs (es_mL (es_ME 194)) (0, [(0, (5, 0))], [], [], es_F0, 0, 0) := by
    match L, hL, hC with
    | 0, _, hC => exact es_okW hC es_s0
    | 1, _, hC => exact es_okW hC es_s1
    | 2, _, hC => exact es_okW hC es_s2
    | 3, _, hC => exact es_okW hC es_s3
    | 4, _, hC => exact es_okW hC es_s4
    | 5, _, hC => exact es_okW hC es_s5
    | 6, _, hC => exact es_six hC
    | L + 7, h, _ => exact absurd h (by omega)
  refine hG s.heap ls [] [] ⟨⟨hent.1, hent.2.1, fun j v hv => ?_⟩, rfl, ⟨rfl, fun i o ho => by cases ho⟩, es_frF (a1 := 0) (b1 := 4294967295) (a2 := 0) (b2 := 4294967295) ?_ ?_, va_S.rf⟩
  · obtain ⟨x, h1, h2⟩ := es_al_ok (n0 := s.heap.size) (b := b) (ρ := xs) [(5, 0)] [.ref b] 0 ⟨_, _, rfl, rfl, rfl⟩ j v hv
    exact ⟨x, hent.2.2 _ h1, h2⟩
  · have := es_rng (xs 1)
    unfold es_zb
    omega
  · have := es_rng (xs 2)
    unfold es_zb
    omega
