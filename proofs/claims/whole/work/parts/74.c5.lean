/-! The class: a byte of a long; feed. -/
theorem b255 : ∀ i : Nat, i < 32 → (255#32).getLsbD i = decide (i < 8) := by decide +kernel
theorem bt_bv (x : BitVec 64) (n : Nat) (hn : n ≤ 56) (i : Nat) (hi : i < 32) : ((BitVec.signExtend 32 (x >>> n)).getLsbD i && (255#32).getLsbD i) = ((BitVec.signExtend 32 (x.sshiftRight n)).getLsbD i && (255#32).getLsbD i) := by
  rw [b255 i hi]
  by_cases h8 : i < 8
  · rw [BitVec.getLsbD_signExtend, BitVec.getLsbD_signExtend, if_pos (by omega), if_pos (by omega), BitVec.getLsbD_ushiftRight, BitVec.getLsbD_sshiftRight, if_pos (by omega), decide_eq_false (by omega : ¬ 64 ≤ i)]
    simp
  · rw [decide_eq_false h8, Bool.and_false, Bool.and_false]
theorem bt_eq {v k : Int} (h0 : 0 ≤ k) (h1 : k < 8) : iand_ (l2i_ (lushr_ v (8 * k))) 255 = bt v k := by
  have hk : k = 0 ∨ k = 1 ∨ k = 2 ∨ k = 3 ∨ k = 4 ∨ k = 5 ∨ k = 6 ∨ k = 7 := by omega
  unfold bt iand_ l2i_ land_ lushr_ lshr_
  simp only [Int64.ofInt_toInt, Int32.ofInt_toInt]
  generalize Int64.ofInt v = x
  congr 1
  apply Int32.toBitVec_inj.mp
  rcases hk with rfl | rfl | rfl | rfl | rfl | rfl | rfl | rfl
  · apply BitVec.eq_of_getLsbD_eq
    intro i hi
    simp
  · have e1 : ((Int32.ofInt (8 * 1)).toInt64 &&& 63) = 8 := by decide +kernel
    have e2 : ((Int32.ofInt (8 * 1)).toInt64.toUInt64 &&& Int64.toUInt64 63) = 8 := by decide +kernel
    rw [e1, e2]
    apply BitVec.eq_of_getLsbD_eq
    intro i hi
    simp
    exact bt_bv x.toBitVec 8 (by decide) i hi
  · have e1 : ((Int32.ofInt (8 * 2)).toInt64 &&& 63) = 16 := by decide +kernel
    have e2 : ((Int32.ofInt (8 * 2)).toInt64.toUInt64 &&& Int64.toUInt64 63) = 16 := by decide +kernel
    rw [e1, e2]
    apply BitVec.eq_of_getLsbD_eq
    intro i hi
    simp
    exact bt_bv x.toBitVec 16 (by decide) i hi
  · have e1 : ((Int32.ofInt (8 * 3)).toInt64 &&& 63) = 24 := by decide +kernel
    have e2 : ((Int32.ofInt (8 * 3)).toInt64.toUInt64 &&& Int64.toUInt64 63) = 24 := by decide +kernel
    rw [e1, e2]
    apply BitVec.eq_of_getLsbD_eq
    intro i hi
    simp
    exact bt_bv x.toBitVec 24 (by decide) i hi
  · have e1 : ((Int32.ofInt (8 * 4)).toInt64 &&& 63) = 32 := by decide +kernel
    have e2 : ((Int32.ofInt (8 * 4)).toInt64.toUInt64 &&& Int64.toUInt64 63) = 32 := by decide +kernel
    rw [e1, e2]
    apply BitVec.eq_of_getLsbD_eq
    intro i hi
    simp
    exact bt_bv x.toBitVec 32 (by decide) i hi
  · have e1 : ((Int32.ofInt (8 * 5)).toInt64 &&& 63) = 40 := by decide +kernel
    have e2 : ((Int32.ofInt (8 * 5)).toInt64.toUInt64 &&& Int64.toUInt64 63) = 40 := by decide +kernel
    rw [e1, e2]
    apply BitVec.eq_of_getLsbD_eq
    intro i hi
    simp
    exact bt_bv x.toBitVec 40 (by decide) i hi
  · have e1 : ((Int32.ofInt (8 * 6)).toInt64 &&& 63) = 48 := by decide +kernel
    have e2 : ((Int32.ofInt (8 * 6)).toInt64.toUInt64 &&& Int64.toUInt64 63) = 48 := by decide +kernel
    rw [e1, e2]
    apply BitVec.eq_of_getLsbD_eq
    intro i hi
    simp
    exact bt_bv x.toBitVec 48 (by decide) i hi
  · have e1 : ((Int32.ofInt (8 * 7)).toInt64 &&& 63) = 56 := by decide +kernel
    have e2 : ((Int32.ofInt (8 * 7)).toInt64.toUInt64 &&& Int64.toUInt64 63) = 56 := by decide +kernel
    rw [e1, e2]
    apply BitVec.eq_of_getLsbD_eq
    intro i hi
    simp
    exact bt_bv x.toBitVec 56 (by decide) i hi
theorem iand_255 (z : Int) : 0 ≤ iand_ z 255 ∧ iand_ z 255 ≤ 255 := by
  unfold iand_
  have e : (Int32.ofInt z &&& Int32.ofInt 255).toBitVec = (Int32.ofInt z).toBitVec &&& 255#32 := rfl
  have h1 : (Int32.ofInt z &&& Int32.ofInt 255).toBitVec.toNat ≤ 255 := by
    rw [e, BitVec.toNat_and]
    exact Nat.and_le_right
  have h2 : (Int32.ofInt z &&& Int32.ofInt 255).toInt = ((Int32.ofInt z &&& Int32.ofInt 255).toBitVec.toNat : Int) := by
    show BitVec.toInt _ = _
    rw [BitVec.toInt_eq_toNat_of_lt (by omega)]
  rw [h2]
  omega
theorem bt_b {v k : Int} (h0 : 0 ≤ k) (h1 : k < 8) : 0 ≤ bt v k ∧ bt v k ≤ 255 := by rw [← bt_eq h0 h1]; exact iand_255 _
