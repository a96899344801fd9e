/-! Bits: masks and shifts of numbers that aren't negative. -/
theorem of_nat (n : Nat) : Int32.ofInt (n : Int) = nI n := Int32.ofInt_eq_ofNat
theorem iand_k {z m : Int} (k : Nat) {P : Nat} (hP : 2 ^ k = P) (hm : (Int32.ofInt m).toBitVec.toNat = 2 ^ k - 1) (h0 : 0 ≤ z) (h1 : z < 2147483648) : iand_ z m = z % P := by
  obtain ⟨n, rfl⟩ := Int.eq_ofNat_of_zero_le h0
  have hl : n % 2 ^ k ≤ n := Nat.mod_le _ _
  unfold iand_
  rw [of_nat, pk_andN (by omega) k hm, nI_toInt (by omega), hP]
  rfl
theorem ishl_k {z m : Int} (k : Nat) {P : Nat} (hP : 2 ^ k = P) (hm : ((Int32.ofInt m &&& 31).toBitVec.smod 32).toNat = k) (h0 : 0 ≤ z) (h1 : z * P < 2147483648) : ishl_ z m = z * P := by
  obtain ⟨n, rfl⟩ := Int.eq_ofNat_of_zero_le h0
  have e : ((n * P : Nat) : Int) = (n : Int) * P := rfl
  unfold ishl_
  rw [of_nat, pk_shlN _ k hm (by rw [hP]; omega), nI_toInt (by rw [hP]; omega), hP]
  rfl
theorem ishr_k {z m : Int} (k : Nat) {P : Nat} (hP : 2 ^ k = P) (hm : ((Int32.ofInt m &&& 31).toBitVec.smod 32).toNat = k) (h0 : 0 ≤ z) (h1 : z < 2147483648) : ishr_ z m = z / P := by
  obtain ⟨n, rfl⟩ := Int.eq_ofNat_of_zero_le h0
  have hl : n / 2 ^ k ≤ n := Nat.div_le_self _ _
  unfold ishr_
  rw [of_nat, pk_shrN (by omega) _ k hm, nI_toInt (by omega), hP]
  rfl
theorem ior_k {x v : Int} (k : Nat) {P : Nat} (hP : 2 ^ k = P) (h0 : 0 ≤ x) (h1 : 0 ≤ v) (h2 : v < P) (h3 : x * P + v < 2147483648) : ior_ (x * P) v = x * P + v := by
  obtain ⟨a, rfl⟩ := Int.eq_ofNat_of_zero_le h0
  obtain ⟨b, rfl⟩ := Int.eq_ofNat_of_zero_le h1
  have e : ((a * P : Nat) : Int) = (a : Int) * P := rfl
  unfold ior_
  rw [← e, of_nat, of_nat]
  have e2 : nI (a * P) ||| nI b = nI ((a * P) ||| b) := by
    apply Int32.toBitVec_inj.mp
    apply BitVec.eq_of_toNat_eq
    show ((BitVec.ofNat 32 _) ||| (BitVec.ofNat 32 _)).toNat = (BitVec.ofNat 32 _).toNat
    rw [BitVec.toNat_or, BitVec.toNat_ofNat, BitVec.toNat_ofNat, BitVec.toNat_ofNat, Nat.or_mod_two_pow]
  rw [e2, Nat.mul_comm, ← hP, ← Nat.two_pow_add_eq_or_of_lt (by rw [hP]; omega) a, hP, Nat.mul_comm, nI_toInt (by omega)]
  omega
theorem irem_k {z m : Int} (h0 : 0 ≤ z) (h1 : z < 2147483648) (h2 : 0 < m) (h3 : m < 2147483648) : irem_ z m = z % m := by
  obtain ⟨a, rfl⟩ := Int.eq_ofNat_of_zero_le h0
  obtain ⟨b, rfl⟩ := Int.eq_ofNat_of_zero_le (by omega : 0 ≤ m)
  have hl : a % b ≤ a := Nat.mod_le _ _
  unfold irem_
  rw [of_nat, of_nat, pk_rem (by omega) (by omega) (by omega), nI_toInt (by omega)]
  rfl
