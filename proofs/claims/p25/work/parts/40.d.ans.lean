/-! from the inner call to the wrapped one -/
section An
variable {s : gS} {p : gP}
theorem an2 {z : Option gO} {st : Nat → Int} {F : gS → Option gO} {K : Nat → gS → Option gO} {E : Int → gS → Option gO} (Vk : Int → Prop) (hz : gQ z (Co st F s)) (hL : gQ z (fun r => Lv s r.2.2.2)) (hV : gQ z (fun r => r.1 = 1 → Vk r.2.1)) (hW : gQ (z.bind (gc1 K E)) (fun r => Rt r.2.2.2)) (h1 : st 1 = 0) (hE : ∀ v t, Vk v → gQ (E v t) (fun r => r.2.1 = 0 ∧ gI r.2.2.2 231 0 = v ∧ ∀ a k, a < 231 → gI r.2.2.2 a k = gI t a k)) (hC : ∀ k t, gQ (K k t) (fun r => r.2.1 = st (k + 2) ∧ r.2.1 ≠ 0 ∧ r.2.2.2 = t)) (hF : ∀ u p, J p u → Rt u → gQ (F u) (fun q => Rt q.2.2.2 ∧ gI q.2.2.2 231 0 = gI u 231 0)) : gQ (z.bind (gc1 K E)) (fun r => An2 F r.2.1 r.2.2.2) := by
  refine fun r hr => ⟨hW r hr, fun p hj => ?_⟩
  have hR := hW r hr
  revert r
  suffices hh : gQ (z.bind (gc1 K E)) (fun r => Rt r.2.2.2 → ∀ p, J p r.2.2.2 → gQ (F r.2.2.2) (Bm2 r.2.1)) from fun r hr hj hR => hh r hr hR p hj
  refine gQ_d1 (A := fun r => Co st F s r ∧ Lv s r.2.2.2 ∧ (r.1 = 1 → Vk r.2.1)) (fun r hr => ⟨hz r hr, hL r hr, hV r hr⟩) (fun r hr c_l => ?_) (fun r hr c_l => ?_)
  · obtain ⟨x1_l, x2_l, x3⟩ := hr
    refine fun t ht hR p hj q hq => ?_
    obtain ⟨e1_l, e2_l, e3_l⟩ := hE _ _ (x3 c_l) t ht
    have e8 : E8 s t.2.2.2 := fun k => (e3_l 218 k (by decide)).trans (x2_l 218 k (by decide) rfl)
    obtain ⟨y1, y2⟩ := x1_l _ p e8 hj hR q hq
    obtain ⟨w1_l, w2_l⟩ := hF _ p hj hR q hq
    rw [c_l, h1] at y1
    refine ⟨w1_l, y1.trans e1_l.symm, fun _ => ?_⟩
    rw [w2_l, e2_l, y2 c_l]
  · obtain ⟨x1_l, x2_l, x3⟩ := hr
    refine fun t ht hR p hj q hq => ?_
    obtain ⟨e1_l, e2_l, e3_l⟩ := hC _ _ t ht
    rw [e3_l] at hq hj hR
    have e8 : E8 s r.2.2.2 := fun k => x2_l 218 k (by decide) rfl
    obtain ⟨y1, y2⟩ := x1_l _ p e8 hj hR q hq
    obtain ⟨w1_l, w2_l⟩ := hF _ p hj hR q hq
    rw [show r.1 - 2 + 2 = r.1 by omega] at e1_l
    exact ⟨w1_l, y1.trans e1_l.symm, fun z => absurd z e2_l⟩
theorem aE {v : Int} {t : gS} (_ : True) : gQ (gchk 0 1 (some ((1, 0, 0, gw t 231 (0 : Int).toNat v) : gO))) (fun r => r.2.1 = 0 ∧ gI r.2.2.2 231 0 = v ∧ ∀ a k, a < 231 → gI r.2.2.2 a k = gI t a k) := gQ_chk (gQ_ret ⟨rfl, rd_same rfl, fun a k ha_l => rd_a rfl (by omega)⟩)
theorem aB {v : Int} {t : gS} (h : v = 0 ∨ v = 1) : gQ (if v = 0 then gchk 0 1 (some ((1, 0, 0, gw t 231 (0 : Int).toNat 0) : gO)) else gchk 0 1 (some ((1, 0, 0, gw t 231 (0 : Int).toNat 1)))) (fun r => r.2.1 = 0 ∧ gI r.2.2.2 231 0 = v ∧ ∀ a k, a < 231 → gI r.2.2.2 a k = gI t a k) := by
  rcases h with rfl | rfl
  · rw [if_pos rfl]
    exact aE trivial
  · rw [if_neg (by decide)]
    exact aE trivial
end An
