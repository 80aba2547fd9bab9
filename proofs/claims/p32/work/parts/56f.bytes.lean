section SHY
theorem lor_b {v b : Int} (h0 : 0 ≤ v) (h1 : v < 36028797018963968) (b0 : 0 ≤ b) (b1 : b < 256) : q_lor (q_lsl v 8) b = v * 256 + b := by
  have e1 : q_lsl v 8 = v * 256 := by
    unfold q_lsl
    have e : ((Int32.ofInt 8).toInt64 &&& 63) = 8 := by decide
    rw [e]
    have hz : (Int64.ofInt v <<< (8 : Int64)).toBitVec = (BitVec.ofInt 64 v) <<< (8 : Nat) := rfl
    have ht : ((BitVec.ofInt 64 v) <<< (8 : Nat)).toNat = v.toNat * 256 := by
      rw [BitVec.toNat_shiftLeft, BitVec.toNat_ofInt, Nat.shiftLeft_eq]
      omega
    show (Int64.ofInt v <<< (8 : Int64)).toBitVec.toInt = _
    rw [hz, BitVec.toInt_eq_toNat_of_lt (by omega), ht]
    omega
  rw [e1]
  unfold q_lor
  show ((Int64.ofInt (v * 256)).toBitVec ||| (Int64.ofInt b).toBitVec).toInt = _
  have ha : (Int64.ofInt (v * 256)).toBitVec.toNat = (v.toNat <<< 8) := by
    show (BitVec.ofInt 64 (v * 256)).toNat = _
    rw [BitVec.toNat_ofInt, Nat.shiftLeft_eq]
    omega
  have hb : (Int64.ofInt b).toBitVec.toNat = b.toNat := by
    show (BitVec.ofInt 64 b).toNat = _
    rw [BitVec.toNat_ofInt]
    omega
  have hc : ((Int64.ofInt (v * 256)).toBitVec ||| (Int64.ofInt b).toBitVec).toNat = v.toNat * 256 + b.toNat := by
    rw [BitVec.toNat_or, ha, hb, ← Nat.shiftLeft_add_eq_or_of_lt (by omega), Nat.shiftLeft_eq]
  rw [BitVec.toInt_eq_toNat_of_lt (by omega), hc]
  omega
theorem lan255 (x : Int) (h : -128 ≤ x ∧ x ≤ 127) : 0 ≤ q_lan x 255 ∧ q_lan x 255 < 256 := by
  have := q_lan_bd x (m := 255) (by decide) (by decide)
  omega
end SHY
