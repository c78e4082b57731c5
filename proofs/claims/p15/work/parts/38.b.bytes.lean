/-! a byte by either shift -/
theorem b255 : ∀ i, i < 32 → 8 ≤ i → (255#32).getLsbD i = false := by decide
theorem by8 (x : BitVec 32) (n : Nat) (hn : n ≤ 24) : (x.sshiftRight n) &&& 255#32 = (x >>> n) &&& 255#32 := by
  apply BitVec.eq_of_getLsbD_eq
  intro i_l hi_l
  rw [BitVec.getLsbD_and, BitVec.getLsbD_and]
  by_cases h8 : i_l < 8
  · rw [BitVec.getLsbD_sshiftRight, BitVec.getLsbD_ushiftRight, if_pos (by omega)]
    have hd_l : decide (32 ≤ i_l) = false := by
      rw [decide_eq_false_iff_not]
      omega
    rw [hd_l]
    rfl
  · rw [b255 i_l hi_l (by omega), Bool.and_false, Bool.and_false]
theorem gsh_8 {v k : Int} (hk : k = 0 ∨ k = 8 ∨ k = 16 ∨ k = 24) : gand (gshr v k) 255 = gand (gushr v k) 255 := by
  unfold gand gshr gushr
  rw [Int32.ofInt_toInt, Int32.ofInt_toInt]
  congr 1
  apply Int32.toBitVec.inj
  rcases hk with rfl | rfl | rfl | rfl
  · exact by8 (Int32.ofInt v).toBitVec 0 (by decide)
  · exact by8 (Int32.ofInt v).toBitVec 8 (by decide)
  · exact by8 (Int32.ofInt v).toBitVec 16 (by decide)
  · exact by8 (Int32.ofInt v).toBitVec 24 (by decide)
