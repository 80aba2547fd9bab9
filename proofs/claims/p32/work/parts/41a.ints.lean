section SL1
abbrev SG : Type := Nat → Int → Int
def sg (σ : SG) (c : Nat) (i v : Int) : SG := fun c' i' => if c' = c ∧ i' = i then v else σ c' i'
theorem sg_at (σ : SG) (c : Nat) (i v : Int) : sg σ c i v c i = v := if_pos ⟨rfl, rfl⟩
theorem sg_ne {σ : SG} {c c' : Nat} {i i' v : Int} (h : ¬ (c' = c ∧ i' = i)) : sg σ c i v c' i' = σ c' i' := if_neg h
theorem sg_nc {σ : SG} {c c' : Nat} {i i' v : Int} (h : ¬ c' = c) : sg σ c i v c' i' = σ c' i' := if_neg (fun q => h q.1)
theorem sg_ni {σ : SG} {c c' : Nat} {i i' v : Int} (h : ¬ i' = i) : sg σ c i v c' i' = σ c' i' := if_neg (fun q => h q.2)
def w32 (x : Int) : Int := (Int32.ofInt x).toInt
def w64 (x : Int) : Int := (Int64.ofInt x).toInt
def w8 (x : Int) : Int := (Int8.ofInt x).toInt
theorem w32_of {x : Int} (h1 : -2147483648 ≤ x) (h2 : x < 2147483648) : w32 x = x := Int32.toInt_ofInt_of_le h1 h2
theorem w64_of {x : Int} (h1 : -9223372036854775808 ≤ x) (h2 : x < 9223372036854775808) : w64 x = x := Int64.toInt_ofInt_of_le h1 h2
theorem w8_of {x : Int} (h1 : -128 ≤ x) (h2 : x < 128) : w8 x = x := Int8.toInt_ofInt_of_le h1 h2
theorem w32_lo (x : Int) : -2147483648 ≤ w32 x := Int32.le_toInt _
theorem w32_hi (x : Int) : w32 x < 2147483648 := Int32.toInt_lt _
theorem w64_lo (x : Int) : -9223372036854775808 ≤ w64 x := Int64.le_toInt _
theorem w64_hi (x : Int) : w64 x < 9223372036854775808 := Int64.toInt_lt _
theorem w8_lo (x : Int) : -128 ≤ w8 x := Int8.le_toInt _
theorem w8_hi (x : Int) : w8 x < 128 := Int8.toInt_lt _
theorem w32_bm (x : Int) : w32 x = x.bmod 4294967296 := Int32.toInt_ofInt
theorem w64_bm (x : Int) : w64 x = x.bmod 18446744073709551616 := Int64.toInt_ofInt
theorem w8_bm (x : Int) : w8 x = x.bmod 256 := Int8.toInt_ofInt
def vi (x : Int) : Value := .int (Int32.ofInt x)
def vl (x : Int) : Value := .long (Int64.ofInt x)
def zv (b : Bool) : Value := .int (if b = true then 1 else 0)
def vr (a : Nat) : Value := .ref a
def nz (x : Int) : Bool := !decide (x = 0)
def bz (b : Bool) : Int := if b = true then 1 else 0
theorem nz_bz (b : Bool) : nz (bz b) = b := by cases b <;> rfl
theorem zv_1 : vi 1 = zv true := rfl
theorem zv_0 : vi 0 = zv false := rfl
theorem zv_t {p : Prop} [Decidable p] (h : p) : zv (decide p) = vi 1 := by rw [decide_eq_true h]; rfl
theorem zv_f {p : Prop} [Decidable p] (h : ¬ p) : zv (decide p) = vi 0 := by rw [decide_eq_false h]; rfl

def q_ian (x y : Int) : Int := (Int32.ofInt x &&& Int32.ofInt y).toInt
def q_ior (x y : Int) : Int := (Int32.ofInt x ||| Int32.ofInt y).toInt
def q_ixo (x y : Int) : Int := (Int32.ofInt x ^^^ Int32.ofInt y).toInt
def q_lan (x y : Int) : Int := (Int64.ofInt x &&& Int64.ofInt y).toInt
def q_lor (x y : Int) : Int := (Int64.ofInt x ||| Int64.ofInt y).toInt
def q_lxo (x y : Int) : Int := (Int64.ofInt x ^^^ Int64.ofInt y).toInt
def q_isl (x y : Int) : Int := (Int32.ofInt x <<< (Int32.ofInt y &&& 31)).toInt
def q_isr (x y : Int) : Int := (Int32.ofInt x >>> (Int32.ofInt y &&& 31)).toInt
def q_ius (x y : Int) : Int := ((Int32.ofInt x).toUInt32 >>> ((Int32.ofInt y).toUInt32 &&& Int32.toUInt32 31)).toInt32.toInt
def q_lsl (x y : Int) : Int := (Int64.ofInt x <<< ((Int32.ofInt y).toInt64 &&& 63)).toInt
def q_lsr (x y : Int) : Int := (Int64.ofInt x >>> ((Int32.ofInt y).toInt64 &&& 63)).toInt
def q_lus (x y : Int) : Int := ((Int64.ofInt x).toUInt64 >>> ((Int32.ofInt y).toInt64.toUInt64 &&& Int64.toUInt64 63)).toInt64.toInt
def q_idv (x y : Int) : Int := (w32 x).tdiv (w32 y)
def q_irm (x y : Int) : Int := (w32 x).tmod (w32 y)
def q_ldv (x y : Int) : Int := (w64 x).tdiv (w64 y)
def q_lrm (x y : Int) : Int := (w64 x).tmod (w64 y)
def q_mxi (x y : Int) : Int := if w32 x < w32 y then w32 y else w32 x
def q_mni (x y : Int) : Int := if w32 y < w32 x then w32 y else w32 x
def q_abi (x : Int) : Int := if 0 ≤ w32 x then x else 0 - x
def q_mxl (x y : Int) : Int := if w64 y < w64 x then w64 x else w64 y
def q_mnl (x y : Int) : Int := if w64 y < w64 x then w64 y else w64 x
def q_abl (x : Int) : Int := if 0 < w64 x then x else -x
/-- how two longs compare -/
def q_lc (x y : Int) : Int := if w64 x < w64 y then -1 else if w64 x = w64 y then 0 else 1
theorem of32 (x : Int) : Int32.ofInt (w32 x) = Int32.ofInt x := Int32.ofInt_toInt _
theorem of64 (x : Int) : Int64.ofInt (w64 x) = Int64.ofInt x := Int64.ofInt_toInt _
theorem idv_ok (x y : Int32) : Int32.ofInt (x.toInt.tdiv y.toInt) = x / y := by
  apply Int32.toInt_inj.mp
  rw [Int32.toInt_div, Int32.toInt_ofInt]
theorem ldv_ok (x y : Int64) : Int64.ofInt (x.toInt.tdiv y.toInt) = x / y := by
  apply Int64.toInt_inj.mp
  rw [Int64.toInt_div, Int64.toInt_ofInt]
theorem irm_ok (x y : Int32) : Int32.ofInt (x.toInt.tmod y.toInt) = x - x / y * y := by
  rw [← idv_ok]
  have e : x.toInt.tmod y.toInt = x.toInt - x.toInt.tdiv y.toInt * y.toInt := by rw [Int.tmod_def, Int.mul_comm]
  rw [e, Int32.ofInt_sub, Int32.ofInt_mul, Int32.ofInt_toInt, Int32.ofInt_toInt]
theorem lrm_ok (x y : Int64) : Int64.ofInt (x.toInt.tmod y.toInt) = x - x / y * y := by
  rw [← ldv_ok]
  have e : x.toInt.tmod y.toInt = x.toInt - x.toInt.tdiv y.toInt * y.toInt := by rw [Int.tmod_def, Int.mul_comm]
  rw [e, Int64.ofInt_sub, Int64.ofInt_mul, Int64.ofInt_toInt, Int64.ofInt_toInt]
theorem lt32 {x y : Int} : (Int32.ofInt x < Int32.ofInt y) ↔ w32 x < w32 y := Int32.lt_iff_toInt_lt
theorem le32 {x y : Int} : (Int32.ofInt x ≤ Int32.ofInt y) ↔ w32 x ≤ w32 y := Int32.le_iff_toInt_le
theorem eq32 {x y : Int} : (Int32.ofInt x = Int32.ofInt y) ↔ w32 x = w32 y := Int32.toInt_inj.symm
theorem lt64 {x y : Int} : (Int64.ofInt x < Int64.ofInt y) ↔ w64 x < w64 y := Int64.lt_iff_toInt_lt
theorem eq64 {x y : Int} : (Int64.ofInt x = Int64.ofInt y) ↔ w64 x = w64 y := Int64.toInt_inj.symm
theorem lc_ok (x y : Int) : vi (q_lc x y) = .int (lg_cmp (Int64.ofInt x) (Int64.ofInt y)) := by
  unfold vi q_lc lg_cmp
  have h1 : (Int64.ofInt x > Int64.ofInt y) ↔ w64 y < w64 x := lt64
  by_cases a : w64 x < w64 y
  · rw [if_pos a, if_neg (by rw [h1]; omega), if_neg (by rw [eq64]; omega)]; rfl
  · rw [if_neg a]
    by_cases b : w64 x = w64 y
    · rw [if_pos b, if_neg (by rw [h1]; omega), if_pos (eq64.mpr b)]; rfl
    · rw [if_neg b, if_pos (h1.mpr (by omega))]; rfl
theorem mxi_ok (x y : Int) : vi (q_mxi x y) = .int (if Int32.ofInt x < Int32.ofInt y then Int32.ofInt y else Int32.ofInt x) := by
  unfold vi q_mxi
  by_cases a : w32 x < w32 y
  · rw [if_pos a, if_pos (lt32.mpr a), of32]
  · rw [if_neg a, if_neg (fun q => a (lt32.mp q)), of32]
theorem abi_ok (x : Int) : vi (q_abi x) = .int (if 0 ≤ Int32.ofInt x then Int32.ofInt x else 0 - Int32.ofInt x) := by
  unfold vi q_abi
  have h : (0 ≤ Int32.ofInt x) ↔ 0 ≤ w32 x := Int32.le_iff_toInt_le
  by_cases a : 0 ≤ w32 x
  · rw [if_pos a, if_pos (h.mpr a)]
  · rw [if_neg a, if_neg (fun q => a (h.mp q)), Int32.ofInt_sub]; rfl
theorem abl_ok (x : Int) : vl (q_abl x) = .long (if 0 < Int64.ofInt x then Int64.ofInt x else -Int64.ofInt x) := by
  unfold vl q_abl
  have h : (0 < Int64.ofInt x) ↔ 0 < w64 x := Int64.lt_iff_toInt_lt
  by_cases a : 0 < w64 x
  · rw [if_pos a, if_pos (h.mpr a)]
  · rw [if_neg a, if_neg (fun q => a (h.mp q)), Int64.ofInt_neg]
end SL1
