section SNA
theorem sh_amt : ∀ k : Nat, k < 31 → ((Int32.ofInt (k : Int)).toInt64 &&& 63).toBitVec.smod 64 = BitVec.ofNat 64 k := by decide +kernel
theorem lsr_div {x : Int} {k : Nat} (h0 : 0 ≤ x) (h1 : x < 9223372036854775808) (hk : k < 31) : q_lsr x k = x / 2 ^ k := by
  unfold q_lsr
  have e1 : (Int64.ofInt x >>> ((Int32.ofInt (k : Int)).toInt64 &&& 63)).toInt = ((Int64.ofInt x >>> ((Int32.ofInt (k : Int)).toInt64 &&& 63)).toBitVec).toInt := rfl
  rw [e1, Int64.toBitVec_shiftRight, sh_amt k hk]
  show (BitVec.sshiftRight' (Int64.ofInt x).toBitVec (BitVec.ofNat 64 k)).toInt = _
  rw [BitVec.sshiftRight_eq', BitVec.toInt_sshiftRight]
  have e2 : (BitVec.ofNat 64 k).toNat = k := by rw [BitVec.toNat_ofNat]; omega
  have e3 : (Int64.ofInt x).toBitVec.toInt = x := by
    show (Int64.ofInt x).toInt = x
    exact w64_of (by omega) h1
  rw [e2, e3, Int.shiftRight_eq_div_pow]
  rfl
theorem bit_of {x : Int} {k : Nat} (h0 : 0 ≤ x) (h1 : x < 9223372036854775808) (hk : k < 31) : q_lan (q_lsr x k) 1 = (x / 2 ^ k) % 2 := by
  rw [lsr_div h0 h1 hk]
  have hq : 0 ≤ x / 2 ^ k := Int.ediv_nonneg h0 (Int.le_of_lt (p2_pos k))
  have hq1 : x / 2 ^ k ≤ x := Int.ediv_le_self _ h0
  generalize x / 2 ^ k = y at *
  show ((Int64.ofInt y).toBitVec &&& (Int64.ofInt 1).toBitVec).toInt = _
  have ha : (Int64.ofInt y).toBitVec.toNat = y.toNat := by
    show (BitVec.ofInt 64 y).toNat = _
    rw [BitVec.toNat_ofInt]; omega
  have hb : (Int64.ofInt 1).toBitVec.toNat = 2 ^ 1 - 1 := by decide
  have hc : ((Int64.ofInt y).toBitVec &&& (Int64.ofInt 1).toBitVec).toNat = y.toNat % 2 := by
    rw [BitVec.toNat_and, hb, ha, Nat.and_two_pow_sub_one_eq_mod]
  rw [BitVec.toInt_eq_toNat_of_lt (by omega), hc]
  omega
/-- the nearest whole number to a place on a way (the pixel in which it is) -/
theorem v_rounded {a d num den : Int} (ha : -1000000000 ≤ a ∧ a ≤ 1000000000) (hd : -1000000000 ≤ d ∧ d ≤ 1000000000) (hn0 : 0 ≤ num) (hn1 : num ≤ den) (hd0 : 0 < den) (hd1 : den ≤ 4000000000000000000) : wp_ (fR_rounded a d num den) (fun r => (2 * r - 1) * den ≤ 2 * (a * den + d * num) ∧ 2 * (a * den + d * num) < (2 * r + 1) * den) := by
  unfold fR_rounded
  have wd : w64 d = d := w64_of (by omega) (by omega)
  have wden : w64 den = den := w64_of (by omega) (by omega)
  rw [wd, wden]
  generalize hsz : (if d < 0 then -d else d) = size
  have bs : 0 ≤ size ∧ size ≤ 1000000000 := by rw [← hsz]; split <;> omega
  refine wp_bd (P := fun x => 0 ≤ x.1 ∧ x.1 ≤ size ∧ 0 ≤ x.2.1 ∧ x.2.1 < den ∧ x.1 * den + x.2.1 = size * num) ?_ ?_
  · refine wp_whl (fun x => -1 ≤ x.2.2 ∧ x.2.2 ≤ 30 ∧ 0 ≤ x.1 ∧ 0 ≤ x.2.1 ∧ x.2.1 < den ∧ x.1 * den + x.2.1 = (size / 2 ^ (x.2.2 + 1).toNat) * num) (fun x => (x.2.2 + 1).toNat) ⟨by decide, by decide, Int.le_refl 0, Int.le_refl 0, hd0, ?_⟩ ?_
    · have : size / 2 ^ ((30 : Int) + 1).toNat = 0 := by
        have : (2 : Int) ^ ((30 : Int) + 1).toNat = 2147483648 := rfl
        rw [this]; omega
      dsimp only
      rw [this]; omega
    rintro ⟨q, r, k⟩ ⟨k0, k1, q0, r0, r1, he⟩
    dsimp only at k0 k1 q0 r0 r1 he ⊢
    rw [w32_of (x := k) (by omega) (by omega), w64_of (x := 2 * r) (by omega) (by omega)]
    refine wp_if (fun g => ?_) (fun g => ?_)
    · obtain ⟨n, hn⟩ : ∃ n : Nat, k = n := ⟨k.toNat, by omega⟩
      subst hn
      have e1 : ((n : Int) + 1).toNat = n + 1 := by omega
      have e2 : ((n : Int) + -1 + 1).toNat = n := by omega
      rw [e1] at he
      have hb := bit_of (x := size) (k := n) bs.1 (by omega) (by omega)
      have hp : (2 : Int) ^ (n + 1) = 2 ^ n * 2 := Int.pow_succ _ _
      have hdiv : size / 2 ^ n = 2 * (size / 2 ^ (n + 1)) + (size / 2 ^ n) % 2 := by
        rw [hp, ← Int.ediv_ediv_of_nonneg (Int.le_of_lt (p2_pos n))]
        omega
      generalize size / 2 ^ (n + 1) = S1 at *
      generalize hS : size / 2 ^ n = S at *
      refine wp_bd (P := fun x => 0 ≤ x.1 ∧ 0 ≤ x.2 ∧ x.2 < den ∧ x.1 * den + x.2 = 2 * S1 * num) ?_ ?_
      · refine wp_if (fun h => wp_some ⟨by dsimp only; omega, by dsimp only; omega, by dsimp only; omega, ?_⟩) (fun h => wp_some ⟨by dsimp only; omega, by dsimp only; omega, by dsimp only; omega, ?_⟩)
        · dsimp only; grind
        · dsimp only; grind
      rintro ⟨q', r'⟩ - ⟨a1, a2, a3, a4⟩
      dsimp only at a1 a2 a3 a4 ⊢
      rw [hb, w64_of (x := S % 2) (by omega) (by omega)]
      refine wp_if (fun h => ?_) (fun h => ?_)
      · refine wp_il ⟨⟨by dsimp only; omega, by dsimp only; omega, a1, a2, a3, ?_⟩, by dsimp only; omega⟩
        dsimp only
        rw [e2, a4, hS, hdiv, h]; grind
      · have h1 : S % 2 = 1 := by omega
        rw [w64_of (x := r' + num) (by omega) (by omega)]
        refine wp_bd (P := fun x => 0 ≤ x.1 ∧ 0 ≤ x.2 ∧ x.2 < den ∧ x.1 * den + x.2 = S * num) ?_ (fun x _ hx => wp_il ⟨⟨by dsimp only; omega, by dsimp only; omega, hx.1, hx.2.1, hx.2.2.1, by dsimp only; rw [e2, hS]; exact hx.2.2.2⟩, by dsimp only; omega⟩)
        have hS2 : S * num = 2 * S1 * num + num := by rw [hdiv, h1]; grind
        refine wp_if (fun h => wp_some ⟨by dsimp only; omega, by dsimp only; omega, by dsimp only; omega, ?_⟩) (fun h => wp_some ⟨by dsimp only; omega, by dsimp only; omega, by dsimp only; omega, ?_⟩)
        · dsimp only; rw [hS2]; grind
        · dsimp only; rw [hS2]; grind
    · have hk : k = -1 := by omega
      subst hk
      have e0 : size / 2 ^ ((-1 : Int) + 1).toNat = size := by
        show size / 1 = size
        omega
      rw [e0] at he
      refine wp_ir ⟨q0, ?_, r0, r1, he⟩
      rcases Int.lt_or_le size q with h | h
      · exfalso
        have m1 := Int.mul_le_mul_of_nonneg_right (show size + 1 ≤ q by omega) (Int.le_of_lt hd0)
        have m2 := Int.mul_le_mul_of_nonneg_left hn1 bs.1
        rw [Int.add_mul, Int.one_mul] at m1
        omega
      · exact h
  rintro ⟨q, r, k⟩ - ⟨q0, q1, r0, r1, he⟩
  dsimp only at q0 q1 r0 r1 he ⊢
  rw [w64_of (x := 2 * r) (by omega) (by omega)]
  refine wp_if (fun g => wp_some ?_) (fun g => wp_some ?_)
  · have hs : size = d := by rw [← hsz, if_neg (by omega)]
    rw [hs] at he
    rw [← he]
    split
    · constructor <;> grind
    · constructor <;> grind
  · have hs : size = -d := by rw [← hsz, if_pos (by omega)]
    rw [hs] at he
    have he2 : d * num = -(q * den + r) := by rw [he]; grind
    rw [he2]
    split
    · constructor <;> grind
    · constructor <;> grind
end SNA
