/-! ===== the class: bits of names ===== -/
theorem bit_am32 : ∀ q, q < 10 → ((Int32.ofInt (q : Nat) &&& 31).toBitVec.smod 32).toNat = q := by decide +kernel
theorem bit_shr32 {a : Int} {q : Nat} (a0 : 0 ≤ a) (a1 : a < 1024) (hq : q < 10) : (Int32.ofInt a >>> (Int32.ofInt (q : Nat) &&& 31)).toInt = ((a.toNat >>> q : Nat) : Int) := by
  have e : (Int32.ofInt a >>> (Int32.ofInt (q : Nat) &&& 31)).toBitVec = (Int32.ofInt a).toBitVec.sshiftRight ((Int32.ofInt (q : Nat) &&& 31).toBitVec.smod 32).toNat := rfl
  show (Int32.ofInt a >>> (Int32.ofInt (q : Nat) &&& 31)).toBitVec.toInt = _
  rw [e, bit_am32 q hq, BitVec.toInt_sshiftRight]
  have : (Int32.ofInt a).toBitVec.toInt = a := am_rg32 (by omega) (by omega)
  rw [this]
  obtain ⟨n, rfl⟩ := Int.eq_ofNat_of_zero_le a0
  rfl
theorem bit_and32 {a : Int} (a0 : 0 ≤ a) (a1 : a < 1024) : (Int32.ofInt a &&& Int32.ofInt 1).toInt = a % 2 := by
  have e : (Int32.ofInt a &&& Int32.ofInt 1).toBitVec = BitVec.ofInt 32 a &&& 1#32 := rfl
  show (Int32.ofInt a &&& Int32.ofInt 1).toBitVec.toInt = _
  rw [e]
  have v1 : (BitVec.ofInt 32 a).toNat = a.toNat := by
    show (a % 4294967296).toNat = _
    omega
  have hn : (BitVec.ofInt 32 a &&& 1#32).toNat = a.toNat % 2 := by
    rw [BitVec.toNat_and, v1]
    exact Nat.and_two_pow_sub_one_eq_mod a.toNat 1
  rw [BitVec.toInt_eq_toNat_of_lt (by rw [hn]; omega), hn]
  omega
theorem bit_81 (u : Nat) (hu : u < 1024) (m : Nat) (hm : m < 10) : (Int32.ofInt (Int32.ofInt (u : Nat) >>> (Int32.ofInt (m : Nat) &&& 31)).toInt &&& Int32.ofInt 1).toInt = ((u >>> m % 2 : Nat) : Int) := by
  rw [bit_shr32 (by omega) (by omega) hm]
  have h : u >>> m ≤ u := Nat.shiftRight_le u m
  have e : ((u : Int)).toNat = u := rfl
  rw [e]
  generalize u >>> m = z at h
  rw [bit_and32 (by omega) (by omega)]
  omega
