section ENG
/-! THE ENGINE: a plain machine over lists (values with numbers for objects, a heap of entries), and its rules over W. -/
abbrev HP : Type := List (Option ((Nat × vp_A) ⊕ (Nat × List Value)))
abbrev LVs : Type := List (Option Value)
abbrev Outc : Type := Option Value ⊕ String
/-- D; class of each kind of array; addresses of old arrays; where the new heap begins; what old arrays hold -/
abbrev EE : Type := va_G × (Nat → ClassId) × (Nat → Nat) × Nat × (Nat → Option (Nat × (Nat → Int32)))
/-- name, code, locals, what it returns, handlers -/
abbrev MRec : Type := MethodName × ByteArray × Nat × Option FieldType × List (Nat × Nat × Nat × Nat)
def en_b (E : EE) : Nat := E.2.2.2.1
def en_a (E : EE) (a : Nat) : Nat := if a < 32 then E.2.2.1 a else en_b E + (a - 32)
def en_v (E : EE) (v : Value) : Value := match v with
  | .ref a => .ref (en_a E a)
  | v => v
def en_x (E : EE) (a : vp_A) : vp_A := (a.1, match a.2 with
  | .inr (.inr (.inr (.inr f))) => .inr (.inr (.inr (.inr (fun i => (f i).map (en_a E)))))
  | x => x)
def en_e (E : EE) (e : (Nat × vp_A) ⊕ (Nat × List Value)) : va_E := match e with
  | .inl a => .inl (E.2.1 a.1, en_x E a.2)
  | .inr o => .inr (o.1, o.2.map (en_v E))
def en_w (E : EE) (k : Nat) (h : HP) : va_W := match h with
  | [] => []
  | none :: t => en_w E (k + 1) t
  | some e :: t => (k, en_e E e) :: en_w E (k + 1) t
theorem en_pos (E : EE) : ∀ (h : HP) (k i : Nat) (e : (Nat × vp_A) ⊕ (Nat × List Value)), h[i]? = some (some e) → ∃ q : Nat, (en_w E k h)[q]? = some (k + i, en_e E e) ∧ ∀ e', (en_w E k h).set q (k + i, en_e E e') = en_w E k (h.set i (some e')) := by
  intro h
  induction h with
  | nil => intro k i e hh; simp at hh
  | cons x t ih =>
    intro k i e hh
    cases i with
    | zero =>
      simp only [List.getElem?_cons_zero, Option.some.injEq] at hh
      subst hh
      exact ⟨0, by simp [en_w], fun e' => by simp [en_w]⟩
    | succ i =>
      rw [List.getElem?_cons_succ] at hh
      obtain ⟨q, h1, h2⟩ := ih (k + 1) i e hh
      have e1 : k + 1 + i = k + (i + 1) := by omega
      rw [e1] at h1 h2
      cases x with
      | none => exact ⟨q, h1, fun e' => by rw [List.set_cons_succ]; exact h2 e'⟩
      | some y => exact ⟨q + 1, by simpa [en_w] using h1, fun e' => by simp only [en_w, List.set_cons_succ, h2]⟩
theorem en_app (E : EE) : ∀ (h : HP) (k : Nat) (e : (Nat × vp_A) ⊕ (Nat × List Value)), en_w E k (h ++ [some e]) = en_w E k h ++ [(k + h.length, en_e E e)] := by
  intro h
  induction h with
  | nil => intro k e; simp [en_w]
  | cons x t ih =>
    intro k e
    have e1 : k + 1 + t.length = k + (t.length + 1) := by omega
    cases x <;> simp [en_w, ih, e1]
theorem en_appn (E : EE) : ∀ (h : HP) (k : Nat), en_w E k (h ++ [none]) = en_w E k h := by
  intro h
  induction h with
  | nil => intro k; simp [en_w]
  | cons x t ih => intro k; cases x <;> simp [en_w, ih]
theorem en_ge (E : EE) : ∀ (h : HP) (k q : Nat) (p : Nat × va_E), (en_w E k h)[q]? = some p → k ≤ p.1 ∧ p.1 < k + h.length := by
  intro h
  induction h with
  | nil => intro k q p hh; simp [en_w] at hh
  | cons x t ih =>
    intro k q p hh
    cases x with
    | none =>
      have := ih (k + 1) q p hh
      simp only [List.length_cons]
      omega
    | some y =>
      cases q with
      | zero =>
        simp only [en_w, List.getElem?_cons_zero, Option.some.injEq] at hh
        subst hh
        simp
      | succ q =>
        simp only [en_w, List.getElem?_cons_succ] at hh
        have := ih (k + 1) q p hh
        simp only [List.length_cons]
        omega
theorem en_D (E : EE) : ∀ (h : HP) (k : Nat) (i j : Nat) (p q : Nat × va_E), (en_w E k h)[i]? = some p → (en_w E k h)[j]? = some q → p.1 = q.1 → i = j := by
  intro h
  induction h with
  | nil => intro k i j p q hh; simp [en_w] at hh
  | cons x t ih =>
    intro k i j p q h1 h2 h3
    cases x with
    | none => exact ih (k + 1) i j p q h1 h2 h3
    | some y =>
      cases i with
      | zero =>
        cases j with
        | zero => rfl
        | succ j =>
          simp only [en_w, List.getElem?_cons_zero, Option.some.injEq, List.getElem?_cons_succ] at h1 h2
          have := en_ge E t (k + 1) j q h2
          subst h1
          simp only at h3
          omega
      | succ i =>
        cases j with
        | zero =>
          simp only [en_w, List.getElem?_cons_zero, Option.some.injEq, List.getElem?_cons_succ] at h1 h2
          have := en_ge E t (k + 1) i p h1
          subst h2
          simp only at h3
          omega
        | succ j =>
          simp only [en_w, List.getElem?_cons_succ] at h1 h2
          rw [ih (k + 1) i j p q h1 h2 h3]
def en_A (E : EE) : Nat → Prop := fun q => en_b E ≤ q
def en_R (E : EE) (h : HP) (H : Heap) : Prop := H.size = en_b E + h.length ∧ va_P E.1 vwCl (en_w E (en_b E) h) H
theorem en_vaD (E : EE) (h : HP) : va_D (en_A E) (en_w E (en_b E) h) := ⟨en_D E h (en_b E), fun k q hk => (en_ge E h (en_b E) k q hk).1⟩
def en_T (E : EE) : List (ClassId × FieldType) := [(E.2.1 0, .int), (E.2.1 1, .long), (E.2.1 2, .byte), (E.2.1 3, .boolean), (E.2.1 4, .object RX6), (E.2.1 5, .array .int)]
/-- words that only the tables decide, and that are no good words -/
def en_nest (w : Cond) : Bool := match w with
  | .methodLinkNest .. => true
  | .fieldLinkNest .. => true
  | .castable .. => true
  | .declares .. => true
  | _ => false
def NW : List Cond := tables_1.filter en_nest
def WS : List Cond := lw_tbl.filter goodWord
/-- exceptions of which the first is no sort of the second -/
def en_ex : List String := ["java/lang/IndexOutOfBoundsException", "java/lang/IllegalStateException", "java/lang/IllegalArgumentException", "java/lang/UnsupportedOperationException"]
def en_G (E : EE) (U : State) : Prop := va_K E.1 vwCl (en_T E) U ∧ (∀ w ∈ NW, va_Nw w U) ∧ vx_Zq Bundle.tN "UNASSIGNED_STACK" Bundle.steD (en_A E) U U.heap ∧ vx_Zq Bundle.tN "SUPPRESSED_SENTINEL" Bundle.listD (en_A E) U U.heap ∧
  (∀ a ∈ en_ex, ∀ b ∈ en_ex, a ≠ b → va_Nc a b U) ∧ va_AO RX6 U ∧ va_AOA .int U ∧ (∀ (k L : Nat) (xs : Nat → Int32), E.2.2.2.2 k = some (L, xs) → va_X (E.2.2.1 k) L xs U U.heap ∧ E.2.2.1 k < en_b E) ∧ en_X E.2.2.1 (en_A E) U
theorem en_nest_warm {w : Cond} (hw : en_nest w = true) {s U : State} (hW : s.WarmedH U.vm) (h : va_Nw w s) : va_Nw w U := by
  cases w with
  | methodLinkNest a i x z => exact va_Nw.warmM hW h
  | fieldLinkNest a i x n d z => exact va_Nw.warmF hW h
  | declares x => exact va_Nw.warmD hW h
  | castable a b =>
    have hvm := hW.alike
    simp only [va_Nw, Cond.before, Cond.holds, Cond.value] at h ⊢
    rw [hvm.findClass, hvm.findClass]
    simpa only [hvm.assignable] using h
  | _ => exact Bool.noConfusion hw
theorem en_G_to {E : EE} {s U : State} (h : en_G E s) (hW : s.WarmedH U.vm) (hb : en_b E ≤ s.heap.size) (hH : ∀ q : Nat, q < s.heap.size → ¬ en_A E q → U.heap[q]? = s.heap[q]?) : en_G E U := by
  obtain ⟨h1, h2, h3, h4, h5, h6, h7, h8, h9⟩ := h
  have hvm := hW.alike
  refine ⟨va_K.moved hvm h1, fun w hw => en_nest_warm (List.mem_filter.mp hw).2 hW (h2 w hw), vx_Zq.moved hvm (h3.kept hH), vx_Zq.moved hvm (h4.kept hH), fun a ha b hb n => va_Nc.moved hvm (h5 a ha b hb n), va_AO.moved hvm h6, va_AOA.moved hvm h7, fun k L xs hk => ?_, en_X_to h9 hW hH⟩
  obtain ⟨g1, g2⟩ := h8 k L xs hk
  exact ⟨va_X.moved hvm (g1.kept (hH _ (Nat.lt_of_lt_of_le g2 hb) (Nat.not_le.mpr g2))), g2⟩
end ENG
