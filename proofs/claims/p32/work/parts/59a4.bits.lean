section BTS
theorem sh_am2 : ∀ k : Nat, k < 64 → ((Int32.ofInt (k : Int)).toInt64 &&& 63).toBitVec.smod 64 = BitVec.ofNat 64 k := by decide +kernel
theorem lsr_k {x : Int} {k : Nat} (h0 : -9223372036854775808 ≤ x) (h1 : x < 9223372036854775808) (hk : k < 64) : q_lsr x k = x / 2 ^ k := by
  unfold q_lsr
  have e1 : (Int64.ofInt x >>> ((Int32.ofInt (k : Int)).toInt64 &&& 63)).toInt = ((Int64.ofInt x >>> ((Int32.ofInt (k : Int)).toInt64 &&& 63)).toBitVec).toInt := rfl
  rw [e1, Int64.toBitVec_shiftRight, sh_am2 k hk]
  show (BitVec.sshiftRight' (Int64.ofInt x).toBitVec (BitVec.ofNat 64 k)).toInt = _
  rw [BitVec.sshiftRight_eq', BitVec.toInt_sshiftRight]
  have e2 : (BitVec.ofNat 64 k).toNat = k := by rw [BitVec.toNat_ofNat]; omega
  have e3 : (Int64.ofInt x).toBitVec.toInt = x := by
    show (Int64.ofInt x).toInt = x
    exact w64_of (by omega) h1
  rw [e2, e3, Int.shiftRight_eq_div_pow]
  rfl
theorem lsl_bv (x : Int) {k : Nat} (hk : k < 64) : (Int64.ofInt (q_lsl x k)).toBitVec = (BitVec.ofInt 64 x) <<< k := by
  unfold q_lsl
  rw [show Int64.ofInt (Int64.ofInt x <<< ((Int32.ofInt (k : Int)).toInt64 &&& 63)).toInt = Int64.ofInt x <<< ((Int32.ofInt (k : Int)).toInt64 &&& 63) from Int64.ofInt_toInt _]
  rw [Int64.toBitVec_shiftLeft, sh_am2 k hk, BitVec.shiftLeft_eq']
  have e2 : (BitVec.ofNat 64 k).toNat = k := by rw [BitVec.toNat_ofNat]; omega
  rw [e2]; rfl
theorem lsl_nat (x : Int) {k : Nat} (hk : k < 64) : ((Int64.ofInt (q_lsl x k)).toBitVec).toNat = (x % 2 ^ (64 - k)).toNat <<< k := by
  rw [lsl_bv x hk, BitVec.toNat_shiftLeft, BitVec.toNat_ofInt, Nat.shiftLeft_eq, Nat.shiftLeft_eq]
  have hp : (2 : Nat) ^ 64 = 2 ^ (64 - k) * 2 ^ k := by rw [← Nat.pow_add]; congr 1; omega
  have hq : ((2 ^ 64 : Nat) : Int) = 2 ^ (64 - k) * 2 ^ k := by rw [hp]; push_cast; rfl
  have h1 : (0 : Int) < 2 ^ (64 - k) := Int.pow_pos (by decide)
  have h2 : (0 : Int) < 2 ^ k := Int.pow_pos (by decide)
  have g0 : 0 ≤ x % 2 ^ (64 - k) := Int.emod_nonneg _ (by omega)
  have g1 : x % 2 ^ (64 - k) < 2 ^ (64 - k) := Int.emod_lt_of_pos _ h1
  have e : ((x % ((2 ^ 64 : Nat) : Int)).toNat * 2 ^ k) % 2 ^ 64 = ((x % ((2 ^ 64 : Nat) : Int)).toNat % 2 ^ (64 - k)) * 2 ^ k := by
    rw [hp, Nat.mul_mod_mul_right]
  rw [e]
  congr 1
  have f0 : 0 ≤ x % ((2 ^ 64 : Nat) : Int) := Int.emod_nonneg _ (by decide)
  apply Int.ofNat_inj.mp
  rw [Int.natCast_emod, Int.toNat_of_nonneg f0, Int.toNat_of_nonneg g0, hq]
  push_cast
  rw [Int.emod_emod_of_dvd _ (Int.dvd_mul_right _ _)]
theorem lor_lsl {a b : Int} {k : Nat} (hk : k < 63) (ha : -9223372036854775808 ≤ a * 2 ^ k) (hb : a * 2 ^ k + b < 9223372036854775808) (b0 : 0 ≤ b) (b1 : b < 2 ^ k) : q_lor (q_lsl a k) b = a * 2 ^ k + b := by
  unfold q_lor
  show ((Int64.ofInt (q_lsl a k)).toBitVec ||| (Int64.ofInt b).toBitVec).toInt = _
  have h2 : (0 : Int) < 2 ^ k := Int.pow_pos (by decide)
  have hm : (2 : Int) ^ k ≤ 2 ^ 62 := by
    have : (2 : Nat) ^ k ≤ 2 ^ 62 := Nat.pow_le_pow_right (by decide) (by omega)
    exact_mod_cast this
  have eb : (Int64.ofInt b).toBitVec.toNat = b.toNat := by
    show (BitVec.ofInt 64 b).toNat = _
    rw [BitVec.toNat_ofInt]
    omega
  have bl : b.toNat < 2 ^ k := by
    have : ((b.toNat : Nat) : Int) < ((2 ^ k : Nat) : Int) := by push_cast; omega
    exact_mod_cast this
  have hc : ((Int64.ofInt (q_lsl a k)).toBitVec ||| (Int64.ofInt b).toBitVec).toNat = (a % 2 ^ (64 - k)).toNat * 2 ^ k + b.toNat := by
    rw [BitVec.toNat_or, lsl_nat a (by omega), eb, ← Nat.shiftLeft_add_eq_or_of_lt bl, Nat.shiftLeft_eq]
  have g0 : 0 ≤ a % 2 ^ (64 - k) := Int.emod_nonneg _ (by have : (0 : Int) < 2 ^ (64 - k) := Int.pow_pos (by decide); omega)
  have hq : (18446744073709551616 : Int) = 2 ^ (64 - k) * 2 ^ k := by
    have h9 : (18446744073709551616 : Nat) = 2 ^ (64 - k) * 2 ^ k := by rw [← Nat.pow_add, show 64 - k + k = 64 by omega]
    have t : ((18446744073709551616 : Nat) : Int) = ((2 ^ (64 - k) * 2 ^ k : Nat) : Int) := congrArg _ h9
    rw [Int.natCast_mul, Int.natCast_pow, Int.natCast_pow] at t
    exact t
  have hv : (a % 2 ^ (64 - k)) * 2 ^ k = (a * 2 ^ k) % 18446744073709551616 := by
    rw [hq, Int.mul_comm a, Int.mul_comm (2 ^ (64 - k)), Int.mul_emod_mul_of_pos _ _ h2, Int.mul_comm]
  have hn : (((a % 2 ^ (64 - k)).toNat * 2 ^ k + b.toNat : Nat) : Int) = (a * 2 ^ k) % 18446744073709551616 + b := by
    push_cast
    rw [Int.toNat_of_nonneg g0, hv, Int.toNat_of_nonneg b0]
  have dv : a * 2 ^ k < 0 → a * 2 ^ k + b < 0 := fun h => by
    have a1 : a ≤ -1 := by
      have : ¬ 0 ≤ a := fun z => by have := Int.mul_nonneg z (Int.le_of_lt h2); omega
      omega
    have := Int.mul_le_mul_of_nonneg_right a1 (Int.le_of_lt h2)
    omega
  rw [BitVec.toInt_eq_toNat_cond, hc]
  generalize (a % 2 ^ (64 - k)).toNat * 2 ^ k + b.toNat = N at *
  generalize a * 2 ^ k = P at *
  split <;> omega
theorem lan_p (x : Int) {k : Nat} (hk : k ≤ 62) {m : Int} (hm : m = 2 ^ k - 1) : q_lan x m = x % 2 ^ k := by
  unfold q_lan
  show ((Int64.ofInt x).toBitVec &&& (Int64.ofInt m).toBitVec).toInt = _
  have h2 : (0 : Int) < 2 ^ k := Int.pow_pos (by decide)
  have hp : (2 : Nat) ^ k ≤ 2 ^ 62 := Nat.pow_le_pow_right (by decide) hk
  have hpi : (2 : Int) ^ k ≤ 4611686018427387904 := by
    rw [show (2 : Nat) ^ 62 = 4611686018427387904 by decide] at hp
    have t : ((2 ^ k : Nat) : Int) ≤ ((4611686018427387904 : Nat) : Int) := Int.ofNat_le.mpr hp
    rw [Int.natCast_pow] at t
    exact t
  have h1 : 0 < 2 ^ k := Nat.pow_pos (n := k) (by decide : 0 < 2)
  have ha : (Int64.ofInt x).toBitVec.toNat = (x % 18446744073709551616).toNat := by
    show (BitVec.ofInt 64 x).toNat = _
    rw [BitVec.toNat_ofInt]; rfl
  have hb : (Int64.ofInt m).toBitVec.toNat = 2 ^ k - 1 := by
    show (BitVec.ofInt 64 m).toNat = _
    rw [BitVec.toNat_ofInt, hm]
    have e : ((2 : Int) ^ k - 1) % ((2 ^ 64 : Nat) : Int) = 2 ^ k - 1 := Int.emod_eq_of_lt (by omega) (by show (2 : Int) ^ k - 1 < 18446744073709551616; omega)
    rw [e]
    apply Int.ofNat_inj.mp
    rw [Int.toNat_of_nonneg (by omega), Int.ofNat_sub h1]
    push_cast; rfl
  have hc : ((Int64.ofInt x).toBitVec &&& (Int64.ofInt m).toBitVec).toNat = (x % 18446744073709551616).toNat % 2 ^ k := by
    rw [BitVec.toNat_and, hb, ha, Nat.and_two_pow_sub_one_eq_mod]
  have hlt : (x % 18446744073709551616).toNat % 2 ^ k < 2 ^ k := Nat.mod_lt _ h1
  rw [BitVec.toInt_eq_toNat_of_lt (by omega), hc]
  have f0 : 0 ≤ x % 18446744073709551616 := Int.emod_nonneg _ (by decide)
  rw [Int.natCast_emod, Int.toNat_of_nonneg f0]
  push_cast
  refine Int.emod_emod_of_dvd _ ?_
  have h9 : (18446744073709551616 : Nat) = 2 ^ k * 2 ^ (64 - k) := by rw [← Nat.pow_add, show k + (64 - k) = 64 by omega]
  have t : ((18446744073709551616 : Nat) : Int) = ((2 ^ k * 2 ^ (64 - k) : Nat) : Int) := congrArg _ h9
  rw [Int.natCast_mul, Int.natCast_pow, Int.natCast_pow] at t
  exact ⟨2 ^ (64 - k), t⟩
theorem xor31 {n : Nat} (h : n < 4294967296) : n ^^^ 2147483648 = if n < 2147483648 then n + 2147483648 else n - 2147483648 := by
  have key : ∀ m : Nat, m < 2147483648 → m ^^^ 2147483648 = 2147483648 + m := fun m hm => by
    apply Nat.eq_of_testBit_eq
    intro i
    rw [Nat.testBit_xor, show (2147483648 : Nat) = 2 ^ 31 from rfl, Nat.testBit_two_pow]
    rcases Nat.lt_trichotomy i 31 with q | q | q
    · rw [Nat.testBit_two_pow_add_gt q, decide_eq_false (by omega), Bool.xor_false]
    · subst q
      rw [Nat.testBit_two_pow_add_eq, decide_eq_true rfl, Bool.xor_true]
    · rw [decide_eq_false (by omega), Bool.xor_false, Nat.testBit_lt_two_pow (x := m) (Nat.lt_of_lt_of_le (by omega : m < 2 ^ 31) (Nat.pow_le_pow_right (by decide) (by omega))), Nat.testBit_lt_two_pow (x := 2 ^ 31 + m) (Nat.lt_of_lt_of_le (by omega : 2 ^ 31 + m < 2 ^ 32) (Nat.pow_le_pow_right (by decide) (by omega)))]
  by_cases q : n < 2147483648
  · rw [if_pos q, key n q, Nat.add_comm]
  · rw [if_neg q]
    have e : n = (n - 2147483648) ^^^ 2147483648 := by rw [key _ (by omega)]; omega
    rw [e, Nat.xor_assoc, Nat.xor_self, Nat.xor_zero]
    omega
theorem ixo_min (y : Int) : q_ixo y (-2147483648) = if 0 ≤ w32 y then w32 y - 2147483648 else w32 y + 2147483648 := by
  unfold q_ixo
  show ((Int32.ofInt y).toBitVec ^^^ (Int32.ofInt (-2147483648)).toBitVec).toInt = _
  have hb : (Int32.ofInt (-2147483648)).toBitVec.toNat = 2147483648 := by decide
  have hw : w32 y = (Int32.ofInt y).toBitVec.toInt := rfl
  have ht := BitVec.toInt_eq_toNat_cond (Int32.ofInt y).toBitVec
  have hl : (Int32.ofInt y).toBitVec.toNat < 4294967296 := (Int32.ofInt y).toBitVec.isLt
  have hc : ((Int32.ofInt y).toBitVec ^^^ (Int32.ofInt (-2147483648)).toBitVec).toNat = (if (Int32.ofInt y).toBitVec.toNat < 2147483648 then (Int32.ofInt y).toBitVec.toNat + 2147483648 else (Int32.ofInt y).toBitVec.toNat - 2147483648) := by
    rw [BitVec.toNat_xor, hb, xor31 hl]
  rw [BitVec.toInt_eq_toNat_cond, hc, hw, ht]
  generalize (Int32.ofInt y).toBitVec.toNat = n at *
  repeat' split
  all_goals omega
theorem keyOf_v {x y : Int} (hx : -2147483648 ≤ x ∧ x ≤ 2147483647) (hy : -2147483648 ≤ y ∧ y ≤ 2147483647) : fQ_keyOf x y = x * 4294967296 + (y + 2147483648) := by
  unfold fQ_keyOf
  have e : q_lan (w32 (q_ixo y (-2147483648))) 4294967295 = y + 2147483648 := by
    rw [lan32, ixo_min, w32_of (x := y) (by omega) (by omega)]
    split
    · rw [w32_of (by omega) (by omega)]; omega
    · rw [w32_of (by omega) (by omega)]; omega
  rw [e, w32_of (x := x) (by omega) (by omega)]
  have := lor_lsl (a := x) (b := y + 2147483648) (k := 32) (by decide) (by show -9223372036854775808 ≤ x * 4294967296; omega) (by show x * 4294967296 + (y + 2147483648) < _; omega) (by omega) (by show y + 2147483648 < 4294967296; omega)
  exact this
theorem keyX_v {x y : Int} (hx : -2147483648 ≤ x ∧ x ≤ 2147483647) (hy : -2147483648 ≤ y ∧ y ≤ 2147483647) : fQ_keyX (fQ_keyOf x y) = x := by
  rw [keyOf_v hx hy]
  unfold fQ_keyX
  have := lsr_k (x := x * 4294967296 + (y + 2147483648)) (k := 32) (by omega) (by omega) (by decide)
  have e : ((32 : Nat) : Int) = 32 := rfl
  rw [e] at this
  rw [this]
  show (x * 4294967296 + (y + 2147483648)) / 4294967296 = x
  omega
theorem keyY_v {x y : Int} (hx : -2147483648 ≤ x ∧ x ≤ 2147483647) (hy : -2147483648 ≤ y ∧ y ≤ 2147483647) : fQ_keyY (fQ_keyOf x y) = y := by
  rw [keyOf_v hx hy]
  unfold fQ_keyY
  rw [ixo_min]
  have e : w32 (x * 4294967296 + (y + 2147483648)) = if 0 ≤ y then y - 2147483648 else y + 2147483648 := by
    show (Int32.ofInt (x * 4294967296 + (y + 2147483648))).toInt = _
    have hz : ((Int32.size : Nat) : Int) = 4294967296 := rfl
    rw [Int32.toInt_ofInt, Int.bmod_def, hz]
    split <;> split <;> omega
  rw [e]
  split <;> split <;> omega
/-- a key of a place that may be -/
def okey (v : Int) : Prop := ∃ x y : Int, (-1000000000 ≤ x ∧ x ≤ 1000000000) ∧ (-1000000000 ≤ y ∧ y ≤ 1000000000) ∧ v = fQ_keyOf x y
theorem okey_of {x y : Int} (hx : -1000000000 ≤ x ∧ x ≤ 1000000000) (hy : -1000000000 ≤ y ∧ y ≤ 1000000000) : okey (fQ_keyOf x y) := ⟨x, y, hx, hy, rfl⟩
theorem okey_b {v : Int} (h : okey v) : (-1000000000 ≤ fQ_keyX v ∧ fQ_keyX v ≤ 1000000000) ∧ (-1000000000 ≤ fQ_keyY v ∧ fQ_keyY v ≤ 1000000000) := by
  obtain ⟨x, y, hx, hy, rfl⟩ := h
  rw [keyX_v (by omega) (by omega), keyY_v (by omega) (by omega)]
  exact ⟨hx, hy⟩
theorem lsr2 {x : Int} (h0 : -9223372036854775808 ≤ x) (h1 : x < 9223372036854775808) : q_lsr x 2 = x / 4 := lsr_k (k := 2) h0 h1 (by decide)
theorem lsr13 {x : Int} (h0 : -9223372036854775808 ≤ x) (h1 : x < 9223372036854775808) : q_lsr x 13 = x / 8192 := lsr_k (k := 13) h0 h1 (by decide)
theorem lan3 (x : Int) : q_lan x 3 = x % 4 := lan_p x (k := 2) (by decide) (by decide)
theorem lan511 (x : Int) : q_lan x 511 = x % 512 := lan_p x (k := 9) (by decide) (by decide)
theorem lan1023 (x : Int) : q_lan x 1023 = x % 1024 := lan_p x (k := 10) (by decide) (by decide)
theorem lan8191 (x : Int) : q_lan x 8191 = x % 8192 := lan_p x (k := 13) (by decide) (by decide)
theorem piece_v {a b m : Int} (ha : 0 ≤ a ∧ a ≤ 8191) (hb : 0 ≤ b ∧ b ≤ 8191) (hm : 0 ≤ m ∧ m ≤ 3) : q_lor (q_lsl (q_lor (q_lsl a 13) b) 2) m = (a * 8192 + b) * 4 + m := by
  have e1 : q_lor (q_lsl a 13) b = a * 8192 + b := lor_lsl (k := 13) (by decide) (by show _ ≤ a * 8192; omega) (by show a * 8192 + b < _; omega) hb.1 (by show b < 8192; omega)
  have e2 : q_lor (q_lsl (a * 8192 + b) 2) m = (a * 8192 + b) * 4 + m := lor_lsl (k := 2) (by decide) (by show _ ≤ (a * 8192 + b) * 4; omega) (by show (a * 8192 + b) * 4 + m < _; omega) hm.1 (by show m < 4; omega)
  rw [e1, e2]
end BTS
