/-! ===== bits ===== -/
theorem bit_tag {x : Int} (h1 : -2147483648 ≤ x) (h2 : x < 2147483648) : (Int32.ofInt x &&& Int32.ofInt 7).toInt = x % 8 := by
  have e : (Int32.ofInt x &&& Int32.ofInt 7).toBitVec = BitVec.ofInt 32 x &&& 7#32 := rfl
  show (Int32.ofInt x &&& Int32.ofInt 7).toBitVec.toInt = _
  rw [e]
  have hn : (BitVec.ofInt 32 x &&& 7#32).toNat = (BitVec.ofInt 32 x).toNat % 8 := by
    rw [BitVec.toNat_and]
    exact Nat.and_two_pow_sub_one_eq_mod (BitVec.ofInt 32 x).toNat 3
  have hv : (BitVec.ofInt 32 x).toNat = (x % 4294967296).toNat := rfl
  rw [BitVec.toInt_eq_toNat_of_lt (by rw [hn]; omega), hn, hv]
  omega
theorem bit_num {x : Int} (h1 : -2147483648 ≤ x) (h2 : x < 2147483648) : (Int32.ofInt x >>> (Int32.ofInt 3 &&& 31)).toInt = x / 8 := by
  have e : (Int32.ofInt x >>> (Int32.ofInt 3 &&& 31)).toBitVec = (Int32.ofInt x).toBitVec.sshiftRight 3 := rfl
  show (Int32.ofInt x >>> (Int32.ofInt 3 &&& 31)).toBitVec.toInt = _
  rw [e, BitVec.toInt_sshiftRight, Int.shiftRight_eq_div_pow]
  have : (Int32.ofInt x).toBitVec.toInt = x := am_rg32 h1 h2
  rw [this]
  rfl
theorem bit_val {n t : Int} (h0 : 0 ≤ t) (h1 : t < 8) (h2 : -100000000 ≤ n) (h3 : n < 100000000) : (Int32.ofInt (Int32.ofInt n <<< (Int32.ofInt 3 &&& 31)).toInt ||| Int32.ofInt t).toInt = 8 * n + t := by
  rw [Int32.ofInt_toInt]
  have key : Int32.ofInt n <<< (Int32.ofInt 3 &&& 31) ||| Int32.ofInt t = Int32.ofInt (8 * n + t) := by
    apply Int32.toBitVec_inj.mp
    have e : (Int32.ofInt n <<< (Int32.ofInt 3 &&& 31) ||| Int32.ofInt t).toBitVec = (BitVec.ofInt 32 n <<< 3) ||| BitVec.ofInt 32 t := rfl
    have e2 : (Int32.ofInt (8 * n + t)).toBitVec = BitVec.ofInt 32 (8 * n + t) := rfl
    rw [e, e2]
    apply BitVec.eq_of_toNat_eq
    rw [BitVec.toNat_or, BitVec.toNat_shiftLeft]
    have v1 : (BitVec.ofInt 32 n).toNat = (n % 4294967296).toNat := rfl
    have v2 : (BitVec.ofInt 32 t).toNat = t.toNat := by
      show (t % 4294967296).toNat = t.toNat
      omega
    have v3 : (BitVec.ofInt 32 (8 * n + t)).toNat = ((8 * n + t) % 4294967296).toNat := rfl
    rw [v1, v2, v3, Nat.shiftLeft_eq]
    have v4 : (n % 4294967296).toNat * 2 ^ 3 % 2 ^ 32 = 2 ^ 3 * ((n % 4294967296).toNat % 536870912) := by omega
    rw [v4, ← Nat.two_pow_add_eq_or_of_lt (by omega)]
    omega
  rw [key]
  exact am_rg32 (by omega) (by omega)
