def mD : List Value := [.int 0, .int 0, .long 0, .null, .int 0, .null, .int 0, .int 0, .int 0, .null, .null, .null, .null, .null, .null, .null, .int 0, .int 0, .int 0, .null, .int 0, .int 0, .int 0, .int 0, .int 0, .long 0, .int 0, .null, .null, .int 0, .int 0, .int 0, .null, .null, .null, .null, .null, .null, .null, .null, .null, .null, .null, .null, .null, .null, .null, .null, .int 0, .int 0, .long 0, .long 0, .null, .null, .null, .null, .null, .int 0, .null, .int 0, .null, .null, .int 0, .null, .null, .int 0, .null, .null, .null, .int 0, .int 0, .null, .null, .null, .null, .int 0, .long 0, .long 0, .int 0, .long 0, .long 0, .int 0, .null, .null, .null, .int 0, .null, .null, .null, .int 0, .null, .int 0, .null, .null, .int 0, .null, .null, .null, .null, .int 0, .null, .null, .null, .null, .null, .null, .null, .null, .long 0, .long 0, .long 0, .long 0, .long 0, .long 0, .null, .null, .int 0, .null, .null, .int 0, .null, .int 0, .null, .null, .null, .int 0, .null, .int 0, .null, .null, .null, .int 0, .null, .null, .null]
def mR : HP := [some (.inl (2, 65536, .inl (fun _ => 0))), some (.inl (2, 131072, .inl (fun _ => 0))), some (.inl (0, 33, .inl (fun _ => 0))), some (.inl (0, 67584, .inl (fun _ => 0))), some (.inl (0, 33, .inl (fun _ => 0))), some (.inl (0, 67584, .inl (fun _ => 0))), some (.inl (0, 67584, .inl (fun _ => 0))), some (.inl (0, 7, .inl (fun _ => 0))), some (.inl (0, 32, .inl (fun _ => 0))), some (.inl (0, 60, .inl (fun _ => 0))), some (.inl (1, 60, .inr (.inl (fun _ => 0)))), some (.inl (0, 60, .inl (fun _ => 0))), some (.inl (1, 32, .inr (.inl (fun _ => 0)))), some (.inl (1, 32, .inr (.inl (fun _ => 0)))), some (.inl (1, 32, .inr (.inl (fun _ => 0)))), some (.inl (1, 32, .inr (.inl (fun _ => 0)))), some (.inl (1, 6000, .inr (.inl (fun _ => 0)))), some (.inl (0, 20, .inl (fun _ => 0))), some (.inl (0, 20, .inl (fun _ => 0))), some (.inl (1, 32, .inr (.inl (fun _ => 0)))), some (.inl (1, 32, .inr (.inl (fun _ => 0)))), some (.inl (1, 4200, .inr (.inl (fun _ => 0)))), some (.inl (1, 4200, .inr (.inl (fun _ => 0)))), some (.inl (1, 4200, .inr (.inl (fun _ => 0)))), some (.inl (1, 4200, .inr (.inl (fun _ => 0)))), some (.inl (0, 4200, .inl (fun _ => 0))), some (.inl (0, 4200, .inl (fun _ => 0))), some (.inl (0, 4200, .inl (fun _ => 0))), some (.inl (0, 2048, .inl (fun _ => 0))), some (.inl (0, 2048, .inl (fun _ => 0))), some (.inl (0, 2048, .inl (fun _ => 0))), some (.inl (0, 2048, .inl (fun _ => 0))), some (.inl (0, 2049, .inl (fun _ => 0))), some (.inl (0, 1026, .inl (fun _ => 0))), some (.inl (1, 4200, .inr (.inl (fun _ => 0)))), some (.inl (1, 4200, .inr (.inl (fun _ => 0)))), some (.inl (0, 8400, .inl (fun _ => 0))), some (.inl (0, 8400, .inl (fun _ => 0))), some (.inl (0, 6300, .inl (fun _ => 0))), some (.inl (1, 8193, .inr (.inl (fun _ => 0)))), some (.inl (1, 8193, .inr (.inl (fun _ => 0)))), some (.inl (0, 8193, .inl (fun _ => 0))), some (.inl (1, 8193, .inr (.inl (fun _ => 0)))), some (.inl (1, 8193, .inr (.inl (fun _ => 0)))), some (.inl (3, 8193, .inl (fun _ => 0))), some (.inl (0, 16385, .inl (fun _ => 0))), some (.inl (0, 16385, .inl (fun _ => 0))), some (.inl (0, 16385, .inl (fun _ => 0))), some (.inl (0, 16385, .inl (fun _ => 0))), some (.inl (0, 16385, .inl (fun _ => 0))), some (.inl (3, 16385, .inl (fun _ => 0))), some (.inl (0, 16386, .inl (fun _ => 0))), some (.inl (0, 8193, .inl (fun _ => 0))), some (.inl (0, 33000, .inl (fun _ => 0))), some (.inl (0, 8193, .inl (fun _ => 0))), some (.inl (0, 8193, .inl (fun _ => 0))), some (.inl (1, 8193, .inr (.inl (fun _ => 0)))), some (.inl (0, 8193, .inl (fun _ => 0))), some (.inl (0, 2, .inl (fun _ => 0))), some (.inl (0, 2, .inl (fun _ => 0))), some (.inl (0, 2, .inl (fun _ => 0))), some (.inl (0, 2, .inl (fun _ => 0))), some (.inl (3, 2, .inl (fun _ => 0))), some (.inl (0, 4200, .inl (fun _ => 0))), some (.inl (0, 2, .inl (fun _ => 0))), some (.inl (0, 9, .inl (fun _ => 0))), some (.inl (1, 5000, .inr (.inl (fun _ => 0)))), some (.inl (1, 5000, .inr (.inl (fun _ => 0)))), some (.inl (1, 1025, .inr (.inl (fun _ => 0)))), some (.inl (1, 1025, .inr (.inl (fun _ => 0)))), some (.inl (0, 1025, .inl (fun _ => 0))), some (.inl (3, 1048576, .inl (fun _ => 0))), some (.inl (0, 8200, .inl (fun _ => 0))), some (.inl (0, 8200, .inl (fun _ => 0))), some (.inl (0, 1025, .inl (fun _ => 0))), some (.inl (0, 2100, .inl (fun _ => 0))), some (.inl (0, 2100, .inl (fun _ => 0))), some (.inl (0, 2100, .inl (fun _ => 0))), some (.inl (3, 2048, .inl (fun _ => 0))), some (.inl (0, 2050, .inl (fun _ => 0))), some (.inl (0, 2050, .inl (fun _ => 0)))]
def mPl : List Nat := [1000, 1000, 1000, 0, 1000, 1, 1000, 1000, 1000, 2, 3, 4, 5, 6, 7, 8, 1000, 1000, 1000, 9, 1000, 1000, 1000, 1000, 1000, 1000, 1000, 10, 11, 1000, 1000, 1000, 12, 13, 14, 15, 16, 17, 18, 19, 20, 21, 22, 23, 24, 25, 26, 27, 1000, 1000, 1000, 1000, 28, 29, 30, 31, 32, 1000, 33, 1000, 34, 35, 1000, 36, 37, 1000, 38, 39, 40, 1000, 1000, 41, 42, 43, 44, 1000, 1000, 1000, 1000, 1000, 1000, 1000, 45, 46, 47, 1000, 48, 49, 50, 1000, 51, 1000, 52, 53, 1000, 54, 55, 56, 57, 1000, 58, 59, 60, 61, 62, 63, 64, 65, 1000, 1000, 1000, 1000, 1000, 1000, 66, 67, 1000, 68, 69, 1000, 70, 1000, 71, 72, 73, 1000, 74, 1000, 75, 76, 77, 1000, 78, 79, 80]
def mP (j : Nat) : Nat := mPl.getD j 1000
def mV (L k j : Nat) : Value := if mP j < k then .ref (32 + (L + mP j)) else mD.getD j .null
def mG (L k n j : Nat) : List Value := match n with
  | 0 => []
  | n + 1 => mV L k j :: mG L k n (j + 1)
def mF (L : Nat) (k : Nat) : List Value := mG L k 135 0
def mT (k : Nat) : HP := mR.take k
theorem mG_len (L k : Nat) : ∀ n j, (mG L k n j).length = n := by
  intro n
  induction n with
  | zero => intro j; rfl
  | succ n ih => intro j; show (mG L k n (j + 1)).length + 1 = n + 1; rw [ih]
theorem mF_len (L k : Nat) : (mF L k).length = 135 := mG_len L k 135 0
theorem mV_ne {L k j : Nat} (h : mP j ≠ k) : mV L k j = mV L (k + 1) j := by
  unfold mV
  by_cases q : mP j < k
  · rw [if_pos q, if_pos (by omega)]
  · rw [if_neg q, if_neg (by omega)]
theorem mG_ne {L k : Nat} (N : Nat) : ∀ n j, (∀ i, j ≤ i → i < j + n → mP i ≠ k) → mG L k n j = mG L (k + 1) n j := by
  intro n
  induction n with
  | zero => intro j _; rfl
  | succ n ih =>
    intro j h
    show mV L k j :: mG L k n (j + 1) = mV L (k + 1) j :: mG L (k + 1) n (j + 1)
    rw [mV_ne (h j (Nat.le_refl j) (by omega)), ih (j + 1) (fun i h1 h2 => h i (by omega) (by omega))]
theorem mG_set {L k x : Nat} (h1 : mP x = k) (h2 : ∀ j, j < 135 → j ≠ x → mP j ≠ k) : ∀ n j, j + n ≤ 135 → j ≤ x → x < j + n → (mG L k n j).set (x - j) (.ref (32 + (L + k))) = mG L (k + 1) n j := by
  intro n
  induction n with
  | zero => intro j _ h3 h4; omega
  | succ n ih =>
    intro j h3 h4 h5
    by_cases q : x = j
    · subst q
      rw [Nat.sub_self]
      show Value.ref (32 + (L + k)) :: mG L k n (x + 1) = mV L (k + 1) x :: mG L (k + 1) n (x + 1)
      rw [mG_ne 0 n (x + 1) (fun i a b => h2 i (by omega) (by omega))]
      congr 1
      unfold mV
      rw [h1, if_pos (by omega)]
    · obtain ⟨y, hy⟩ : ∃ y, x - j = y + 1 := ⟨x - j - 1, by omega⟩
      rw [hy]
      show mV L k j :: (mG L k n (j + 1)).set y _ = mV L (k + 1) j :: mG L (k + 1) n (j + 1)
      rw [mV_ne (h2 j (by omega) (fun e => q e.symm)), show y = x - (j + 1) by omega, ih (j + 1) (by omega) (by omega) (by omega)]
theorem mF_set {L k x : Nat} (hx : x < 135) (h1 : mP x = k) (h2 : ∀ j, j < 135 → j ≠ x → mP j ≠ k) : (mF L k).set x (.ref (32 + (L + k))) = mF L (k + 1) := mG_set h1 h2 135 0 (by omega) (by omega) (by omega)
theorem mT_len {k : Nat} (h : k ≤ mR.length) : (mT k).length = k := by unfold mT; rw [List.length_take]; omega
theorem mT_add {k : Nat} {e : Option PEnt} (h : mR[k]? = some e) : mT k ++ [e] = mT (k + 1) := by
  obtain ⟨h1, h2⟩ := List.getElem?_eq_some_iff.mp h
  unfold mT
  rw [List.take_succ, h]
  rfl
set_option maxRecDepth 10000 in
theorem mF_0 (L : Nat) : mF L 0 = mD := rfl
def mL (L : Nat) : List Value := [.int 0, .int 0, .long 0, .ref (32 + (L + 0)), .int 0, .ref (32 + (L + 1)), .int 0, .int 0, .int 0, .ref (32 + (L + 2)), .ref (32 + (L + 3)), .ref (32 + (L + 4)), .ref (32 + (L + 5)), .ref (32 + (L + 6)), .ref (32 + (L + 7)), .ref (32 + (L + 8)), .int 0, .int 0, .int 0, .ref (32 + (L + 9)), .int 0, .int 0, .int 0, .int 0, .int 0, .long 0, .int 0, .ref (32 + (L + 10)), .ref (32 + (L + 11)), .int 0, .int 0, .int 0, .ref (32 + (L + 12)), .ref (32 + (L + 13)), .ref (32 + (L + 14)), .ref (32 + (L + 15)), .ref (32 + (L + 16)), .ref (32 + (L + 17)), .ref (32 + (L + 18)), .ref (32 + (L + 19)), .ref (32 + (L + 20)), .ref (32 + (L + 21)), .ref (32 + (L + 22)), .ref (32 + (L + 23)), .ref (32 + (L + 24)), .ref (32 + (L + 25)), .ref (32 + (L + 26)), .ref (32 + (L + 27)), .int 0, .int 0, .long 0, .long 0, .ref (32 + (L + 28)), .ref (32 + (L + 29)), .ref (32 + (L + 30)), .ref (32 + (L + 31)), .ref (32 + (L + 32)), .int 0, .ref (32 + (L + 33)), .int 0, .ref (32 + (L + 34)), .ref (32 + (L + 35)), .int 0, .ref (32 + (L + 36)), .ref (32 + (L + 37)), .int 0, .ref (32 + (L + 38)), .ref (32 + (L + 39)), .ref (32 + (L + 40)), .int 0, .int 0, .ref (32 + (L + 41)), .ref (32 + (L + 42)), .ref (32 + (L + 43)), .ref (32 + (L + 44)), .int 0, .long 0, .long 0, .int 0, .long 0, .long 0, .int 0, .ref (32 + (L + 45)), .ref (32 + (L + 46)), .ref (32 + (L + 47)), .int 0, .ref (32 + (L + 48)), .ref (32 + (L + 49)), .ref (32 + (L + 50)), .int 0, .ref (32 + (L + 51)), .int 0, .ref (32 + (L + 52)), .ref (32 + (L + 53)), .int 0, .ref (32 + (L + 54)), .ref (32 + (L + 55)), .ref (32 + (L + 56)), .ref (32 + (L + 57)), .int 0, .ref (32 + (L + 58)), .ref (32 + (L + 59)), .ref (32 + (L + 60)), .ref (32 + (L + 61)), .ref (32 + (L + 62)), .ref (32 + (L + 63)), .ref (32 + (L + 64)), .ref (32 + (L + 65)), .long 0, .long 0, .long 0, .long 0, .long 0, .long 0, .ref (32 + (L + 66)), .ref (32 + (L + 67)), .int 0, .ref (32 + (L + 68)), .ref (32 + (L + 69)), .int 0, .ref (32 + (L + 70)), .int 0, .ref (32 + (L + 71)), .ref (32 + (L + 72)), .ref (32 + (L + 73)), .int 0, .ref (32 + (L + 74)), .int 0, .ref (32 + (L + 75)), .ref (32 + (L + 76)), .ref (32 + (L + 77)), .int 0, .ref (32 + (L + 78)), .ref (32 + (L + 79)), .ref (32 + (L + 80))]
set_option maxRecDepth 10000 in
theorem mL_ok (L : Nat) : mF L 81 = mL L := rfl
theorem mT_ok : mT 81 = mR := rfl
/-- 1, 10, 100, 1000 -/
def mU (k : Nat) : Int64 := match k with
  | 0 => 1
  | k + 1 => mU k * 10
/-- the reference's heap behind its constructor -/
def modH (h : HP) (a : Nat) (dg : Int32) : HP := stt h a (.inr (15, (((mL h.length).set 1 (.int (dg &&& Int32.ofInt 3))).set 2 (.long (mU (dg &&& Int32.ofInt 3).toNatClampNeg))))) ++ (mR.set 7 (some (.inl (0, 7, .inl (fun j => if j < 7 then (Int32.ofInt (-1)) else 0)))))
