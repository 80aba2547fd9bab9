section BTS
theorem sh_am2 : ∀ k : Nat, k < 64 → ((Int32.ofInt (k : Int)).toInt64 &&& 63).toBitVec.smod 64 = BitVec.ofNat 64 k := by decide +kernel
theorem lsr_k {x : Int} {k : Nat} (h0 : -9223372036854775808 ≤ x) (h1 : x < 9223372036854775808) (hk : k < 64) : q_lsr x k = x / 2 ^ k := by
  unfold q_lsr
  have e1 : (Int64.ofInt x >>> ((Int32.ofInt (k : Int)).toInt64 &&& 63)).toInt = ((Int64.ofInt x >>> ((Int32.ofInt (k : Int)).toInt64 &&& 63)).toBitVec).toInt := rfl
  rw [e1, Int64.toBitVec_shiftRight, sh_am2 k hk]
  show (BitVec.sshiftRight' (Int64.ofInt x).toBitVec (BitVec.ofNat 64 k)).toInt = _
  rw [BitVec.sshiftRight_eq', BitVec.toInt_sshiftRight]
  have e2 : (BitVec.ofNat 64 k).toNat = k := by rw [BitVec.toNat_ofNat]; omega
  have e3 : (Int64.ofInt x).toBitVec.toInt = x := by
    show (Int64.ofInt x).toInt = x
    exact w64_of (by omega) h1
  rw [e2, e3, Int.shiftRight_eq_div_pow]
  rfl
theorem lsl_bv (x : Int) {k : Nat} (hk : k < 64) : (Int64.ofInt (q_lsl x k)).toBitVec = (BitVec.ofInt 64 x) <<< k := by
  unfold q_lsl
  rw [show Int64.ofInt (Int64.ofInt x <<< ((Int32.ofInt (k : Int)).toInt64 &&& 63)).toInt = Int64.ofInt x <<< ((Int32.ofInt (k : Int)).toInt64 &&& 63) from Int64.ofInt_toInt _]
  rw [Int64.toBitVec_shiftLeft, sh_am2 k hk, BitVec.shiftLeft_eq']
  have e2 : (BitVec.ofNat 64 k).toNat = k := by rw [BitVec.toNat_ofNat]; omega
  rw [e2]; rfl
theorem lsl_nat (x : Int) {k : Nat} (hk : k < 64) : ((Int64.ofInt (q_lsl x k)).toBitVec).toNat = (x % 2 ^ (64 - k)).toNat <<< k := by
  rw [lsl_bv x hk, BitVec.toNat_shiftLeft, BitVec.toNat_ofInt, Nat.shiftLeft_eq, Nat.shiftLeft_eq]
  have hp : (2 : Nat) ^ 64 = 2 ^ (64 - k) * 2 ^ k := by rw [← Nat.pow_add]; congr 1; omega
  have hq : ((2 ^ 64 : Nat) : Int) = 2 ^ (64 - k) * 2 ^ k := by rw [hp]; push_cast; rfl
  have h1 : (0 : Int) < 2 ^ (64 - k) := Int.pow_pos (by decide)
  have h2 : (0 : Int) < 2 ^ k := Int.pow_pos (by decide)
  have g0 : 0 ≤ x % 2 ^ (64 - k) := Int.emod_nonneg _ (by omega)
  have g1 : x % 2 ^ (64 - k) < 2 ^ (64 - k) := Int.emod_lt_of_pos _ h1
  have e : ((x % ((2 ^ 64 : Nat) : Int)).toNat * 2 ^ k) % 2 ^ 64 = ((x % ((2 ^ 64 : Nat) : Int)).toNat % 2 ^ (64 - k)) * 2 ^ k := by
    rw [hp, Nat.mul_mod_mul_right]
  rw [e]
  congr 1
  have f0 : 0 ≤ x % ((2 ^ 64 : Nat) : Int) := Int.emod_nonneg _ (by decide)
  apply Int.ofNat_inj.mp
  rw [Int.natCast_emod, Int.toNat_of_nonneg f0, Int.toNat_of_nonneg g0, hq]
  push_cast
  rw [Int.emod_emod_of_dvd _ (Int.dvd_mul_right _ _)]
theorem lor_lsl {a b : Int} {k : Nat} (hk : k < 63) (ha : -9223372036854775808 ≤ a * 2 ^ k) (hb : a * 2 ^ k + b < 9223372036854775808) (b0 : 0 ≤ b) (b1 : b < 2 ^ k) : q_lor (q_lsl a k) b = a * 2 ^ k + b := by sorry
theorem lan_p (x : Int) {k : Nat} (hk : k ≤ 62) {m : Int} (hm : m = 2 ^ k - 1) : q_lan x m = x % 2 ^ k := by sorry
theorem xor31 {n : Nat} (h : n < 4294967296) : n ^^^ 2147483648 = if n < 2147483648 then n + 2147483648 else n - 2147483648 := by
  have key : ∀ m : Nat, m < 2147483648 → m ^^^ 2147483648 = 2147483648 + m := fun m hm => by
    apply Nat.eq_of_testBit_eq
    intro i
    rw [Nat.testBit_xor, show (2147483648 : Nat) = 2 ^ 31 from rfl, Nat.testBit_two_pow]
    rcases Nat.lt_trichotomy i 31 with q | q | q
    · rw [Nat.testBit_two_pow_add_gt q, decide_eq_false (by omega), Bool.xor_false]
    · subst q
      rw [Nat.testBit_two_pow_add_eq, decide_eq_true rfl, Bool.xor_true]
    · rw [decide_eq_false (by omega), Bool.xor_false, Nat.testBit_lt_two_pow (x := m) (Nat.lt_of_lt_of_le (by omega : m < 2 ^ 31) (Nat.pow_le_pow_right (by decide) (by omega))), Nat.testBit_lt_two_pow (x := 2 ^ 31 + m) (Nat.lt_of_lt_of_le (by omega : 2 ^ 31 + m < 2 ^ 32) (Nat.pow_le_pow_right (by decide) (by omega)))]
  by_cases q : n < 2147483648
  · rw [if_pos q, key n q, Nat.add_comm]
  · rw [if_neg q]
    have e : n = (n - 2147483648) ^^^ 2147483648 := by rw [key _ (by omega)]; omega
    rw [e, Nat.xor_assoc, Nat.xor_self, Nat.xor_zero]
    omega
theorem ixo_min (y : Int) : q_ixo y (-2147483648) = if 0 ≤ w32 y then w32 y - 2147483648 else w32 y + 2147483648 := by sorry
theorem keyOf_v {x y : Int} (hx : -2147483648 ≤ x ∧ x ≤ 2147483647) (hy : -2147483648 ≤ y ∧ y ≤ 2147483647) : fQ_keyOf x y = x * 4294967296 + (y + 2147483648) := by
  unfold fQ_keyOf
  have e : q_lan (w32 (q_ixo y (-2147483648))) 4294967295 = y + 2147483648 := by
    rw [lan32, ixo_min, w32_of (x := y) (by omega) (by omega)]
    split
    · rw [w32_of (by omega) (by omega)]; omega
    · rw [w32_of (by omega) (by omega)]; omega
  rw [e, w32_of (x := x) (by omega) (by omega)]
  have := lor_lsl (a := x) (b := y + 2147483648) (k := 32) (by decide) (by show -9223372036854775808 ≤ x * 4294967296; omega) (by show x * 4294967296 + (y + 2147483648) < _; omega) (by omega) (by show y + 2147483648 < 4294967296; omega)
  exact this
theorem keyX_v {x y : Int} (hx : -2147483648 ≤ x ∧ x ≤ 2147483647) (hy : -2147483648 ≤ y ∧ y ≤ 2147483647) : fQ_keyX (fQ_keyOf x y) = x := by
  rw [keyOf_v hx hy]
  unfold fQ_keyX
  have := lsr_k (x := x * 4294967296 + (y + 2147483648)) (k := 32) (by omega) (by omega) (by decide)
  have e : ((32 : Nat) : Int) = 32 := rfl
  rw [e] at this
  rw [this]
  show (x * 4294967296 + (y + 2147483648)) / 4294967296 = x
  omega
theorem keyY_v {x y : Int} (hx : -2147483648 ≤ x ∧ x ≤ 2147483647) (hy : -2147483648 ≤ y ∧ y ≤ 2147483647) : fQ_keyY (fQ_keyOf x y) = y := by sorry
/-- a key of a place that may be -/
def okey (v : Int) : Prop := ∃ x y : Int, (-1000000000 ≤ x ∧ x ≤ 1000000000) ∧ (-1000000000 ≤ y ∧ y ≤ 1000000000) ∧ v = fQ_keyOf x y
theorem okey_of {x y : Int} (hx : -1000000000 ≤ x ∧ x ≤ 1000000000) (hy : -1000000000 ≤ y ∧ y ≤ 1000000000) : okey (fQ_keyOf x y) := ⟨x, y, hx, hy, rfl⟩
theorem okey_b {v : Int} (h : okey v) : (-1000000000 ≤ fQ_keyX v ∧ fQ_keyX v ≤ 1000000000) ∧ (-1000000000 ≤ fQ_keyY v ∧ fQ_keyY v ≤ 1000000000) := by
  obtain ⟨x, y, hx, hy, rfl⟩ := h
  rw [keyX_v (by omega) (by omega), keyY_v (by omega) (by omega)]
  exact ⟨hx, hy⟩
theorem lsr2 {x : Int} (h0 : -9223372036854775808 ≤ x) (h1 : x < 9223372036854775808) : q_lsr x 2 = x / 4 := lsr_k (k := 2) h0 h1 (by decide)
theorem lsr13 {x : Int} (h0 : -9223372036854775808 ≤ x) (h1 : x < 9223372036854775808) : q_lsr x 13 = x / 8192 := lsr_k (k := 13) h0 h1 (by decide)
theorem lan3 (x : Int) : q_lan x 3 = x % 4 := lan_p x (k := 2) (by decide) (by decide)
theorem lan511 (x : Int) : q_lan x 511 = x % 512 := lan_p x (k := 9) (by decide) (by decide)
theorem lan1023 (x : Int) : q_lan x 1023 = x % 1024 := lan_p x (k := 10) (by decide) (by decide)
theorem lan8191 (x : Int) : q_lan x 8191 = x % 8192 := lan_p x (k := 13) (by decide) (by decide)
theorem piece_v {a b m : Int} (ha : 0 ≤ a ∧ a ≤ 8191) (hb : 0 ≤ b ∧ b ≤ 8191) (hm : 0 ≤ m ∧ m ≤ 3) : q_lor (q_lsl (q_lor (q_lsl a 13) b) 2) m = (a * 8192 + b) * 4 + m := by
  have e1 : q_lor (q_lsl a 13) b = a * 8192 + b := lor_lsl (k := 13) (by decide) (by show _ ≤ a * 8192; omega) (by show a * 8192 + b < _; omega) hb.1 (by show b < 8192; omega)
  have e2 : q_lor (q_lsl (a * 8192 + b) 2) m = (a * 8192 + b) * 4 + m := lor_lsl (k := 2) (by decide) (by show _ ≤ (a * 8192 + b) * 4; omega) (by show (a * 8192 + b) * 4 + m < _; omega) hm.1 (by show m < 4; omega)
  rw [e1, e2]
end BTS
