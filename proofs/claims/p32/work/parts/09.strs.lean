section STR
/-- texts of the class files: 1 .. 10 are their numbers as objects, 17 .. 26 those of their bytes; 11, 12: rows UNITS, NEITHER; 13: a formatter -/
def en_tm (i : Nat) : Term := match i with
  | 0 => Term.string RX10 27
  | 1 => Term.string RX10 29
  | 2 => Term.string RX10 31
  | 3 => Term.string RX10 33
  | 4 => Term.string RX10 35
  | 5 => Term.string RX10 37
  | 6 => Term.string RX10 39
  | 7 => Term.string RX10 90
  | 8 => Term.string RX10 88
  | _ => Term.string RX12 331
def en_lenS : List Nat := [5, 10, 7, 10, 15, 12, 18, 5, 2, 90]
def en_bytS : List (List Int32) := [[80, 79, 73, 78, 84], [76, 73, 78, 69, 83, 84, 82, 73, 78, 71], [80, 79, 76, 89, 71, 79, 78], [77, 85, 76, 84, 73, 80, 79, 73, 78, 84], [77, 85, 76, 84, 73, 76, 73, 78, 69, 83, 84, 82, 73, 78, 71], [77, 85, 76, 84, 73, 80, 79, 76, 89, 71, 79, 78], [71, 69, 79, 77, 69, 84, 82, 89, 67, 79, 76, 76, 69, 67, 84, 73, 79, 78], [69, 77, 80, 84, 89], [44, 32], [80, 79, 73, 78, 84, 32, 76, 73, 78, 69, 83, 84, 82, 73, 78, 71, 32, 80, 79, 76, 89, 71, 79, 78, 32, 77, 85, 76, 84, 73, 80, 79, 73, 78, 84, 32, 77, 85, 76, 84, 73, 76, 73, 78, 69, 83, 84, 82, 73, 78, 71, 32, 77, 85, 76, 84, 73, 80, 79, 76, 89, 71, 79, 78, 32, 71, 69, 79, 77, 69, 84, 82, 89, 67, 79, 76, 76, 69, 67, 84, 73, 79, 78, 32, 69, 77, 80, 84, 89, 32]]
def en_refs : List (String × Nat × String × Nat) := [(RX10, 27, "POINT", 0), (RX10, 29, "LINESTRING", 1), (RX10, 31, "POLYGON", 2), (RX10, 33, "MULTIPOINT", 3), (RX10, 35, "MULTILINESTRING", 4), (RX10, 37, "MULTIPOLYGON", 5), (RX10, 39, "GEOMETRYCOLLECTION", 6), (RX10, 90, "EMPTY", 7), (RX10, 88, ", ", 8), (RX12, 331, "POINT LINESTRING POLYGON MULTIPOINT MULTILINESTRING MULTIPOLYGON GEOMETRYCOLLECTION EMPTY ", 9), (RX9, 145, "EMPTY", 7)]
def en_units (j : Nat) : Int32 := ([1, 10, 100, 1000] : List Int32).getD j 0
def en_neith (j : Nat) : Int32 := ([-1, -1, -1, -1, -1, -1, -1, -1, 2] : List Int32).getD j 0
def en_X (F : Nat → Nat) (A : Nat → Prop) (U : State) : Prop := vk_S 10 en_lenS en_bytS (fun i => F (1 + i)) (fun i => F (17 + i)) A U U.heap ∧ (∀ q ∈ en_refs, vk_R q.1 q.2.1 q.2.2.1 (F (1 + q.2.2.2)) U) ∧
  va_Z RX11 "UNITS" "[I" (.ref (F 11)) A U U.heap ∧ va_Z RX3 "NEITHER" "[I" (.ref (F 12)) A U U.heap ∧ va_Z "java/lang/String" "COMPACT_STRINGS" "Z" (.int 1) A U U.heap ∧ va_T .int (F 11) 4 (fun j => .int (en_units j)) A U U.heap ∧ va_T .int (F 12) 9 (fun j => .int (en_neith j)) A U U.heap ∧
  (va_Z "jdk/internal/util/Preconditions" "SIOOBE_FORMATTER" "Ljava/util/function/BiFunction;" .null A U U.heap ∨ va_Z "jdk/internal/util/Preconditions" "SIOOBE_FORMATTER" "Ljava/util/function/BiFunction;" (.ref (F 13)) A U U.heap)
theorem en_X_to {F : Nat → Nat} {A : Nat → Prop} {s U : State} (h : en_X F A s) (hW : s.WarmedH U.vm) (hH : ∀ q : Nat, q < s.heap.size → ¬ A q → U.heap[q]? = s.heap[q]?) : en_X F A U := by
  obtain ⟨h1, h2, h3, h4, h5, h6, h7, h8⟩ := h
  have hvm := hW.alike
  refine ⟨vk_S.moved hvm (h1.kept hH), fun q hq => vk_R.warm hW (h2 q hq), va_Z.moved hvm (h3.kept hH), va_Z.moved hvm (h4.kept hH), va_Z.moved hvm (h5.kept hH), va_T.moved hvm (h6.kept hH), va_T.moved hvm (h7.kept hH), ?_⟩
  rcases h8 with h8 | h8
  · exact Or.inl (va_Z.moved hvm (h8.kept hH))
  · exact Or.inr (va_Z.moved hvm (h8.kept hH))
end STR
