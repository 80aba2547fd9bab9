section JDG
theorem en_cat (E : EE) (v : Value) : (en_v E v).category = v.category := by cases v <;> rfl
/-- the locals: what is known of them, by place -/
def en_L (E : EE) (nL : Nat) (lv : LVs) (ls : Array Slot) : Prop := ls.size = nL ∧ lv_wf ls ∧ ∀ (i : Nat) (v : Value), lv[i]? = some (some v) → ls[i]? = some (.val (en_v E v))
def en_as (E : EE) (k : Nat) (lv : LVs) : List (Nat × Value) := match lv with
  | [] => []
  | none :: t => en_as E (k + 1) t
  | some v :: t => (k, en_v E v) :: en_as E (k + 1) t
theorem en_as_in (E : EE) : ∀ (lv : LVs) (k i : Nat) (v : Value), lv[i]? = some (some v) → (k + i, en_v E v) ∈ en_as E k lv := by
  intro lv
  induction lv with
  | nil => intro k i v h; simp at h
  | cons x t ih =>
    intro k i v h
    cases i with
    | zero =>
      simp only [List.getElem?_cons_zero, Option.some.injEq] at h
      subst h
      simp [en_as]
    | succ i =>
      rw [List.getElem?_cons_succ] at h
      have h1 := ih (k + 1) i v h
      rw [show k + 1 + i = k + (i + 1) by omega] at h1
      cases x with
      | none => exact h1
      | some y => exact List.mem_cons_of_mem _ h1
theorem en_as_of (E : EE) : ∀ (lv : LVs) (k : Nat) (q : Nat × Value), q ∈ en_as E k lv → ∃ (i : Nat) (v : Value), lv[i]? = some (some v) ∧ q = (k + i, en_v E v) := by
  intro lv
  induction lv with
  | nil => intro k q h; simp [en_as] at h
  | cons x t ih =>
    intro k q h
    have step : q ∈ en_as E (k + 1) t → ∃ (i : Nat) (v : Value), (x :: t)[i]? = some (some v) ∧ q = (k + i, en_v E v) := by
      intro h
      obtain ⟨i, v, h1, h2⟩ := ih (k + 1) q h
      exact ⟨i + 1, v, by rw [List.getElem?_cons_succ]; exact h1, by rw [h2, show k + 1 + i = k + (i + 1) by omega]⟩
    cases x with
    | none => exact step h
    | some y =>
      rcases List.mem_cons.mp h with h | h
      · exact ⟨0, y, rfl, h⟩
      · exact step h
theorem en_has {E : EE} {nL : Nat} {lv : LVs} {ls : Array Slot} (h : en_L E nL lv ls) : lv_has ls nL (en_as E 0 lv) := by
  refine ⟨h.1, h.2.1, fun q hq => ?_⟩
  obtain ⟨i, v, h1, rfl⟩ := en_as_of E lv 0 q hq
  rw [Nat.zero_add]
  exact h.2.2 i v h1
theorem en_at {E : EE} {nL : Nat} {lv : LVs} {ls : Array Slot} (_ : en_L E nL lv ls) {i : Nat} {v : Value} (hv : lv[i]? = some (some v)) : ∃ k : Nat, (en_as E 0 lv)[k]? = some (i, en_v E v) := by
  have h1 := en_as_in E lv 0 i v hv
  rw [Nat.zero_add] at h1
  exact List.mem_iff_getElem?.mp h1
/-- nothing of two words begins just below i -/
def en_fr (lv : LVs) (i : Nat) : Bool := match i with
  | 0 => true
  | j + 1 => match lv[j]? with
    | some (some v) => v.category == 1
    | _ => true
theorem en_fr_spec {lv : LVs} {i j : Nat} {v : Value} (h : en_fr lv i = true) (hj : j + 1 = i) (hv : lv[j]? = some (some v)) : ¬ v.category = 2 := by
  subst hj
  simp only [en_fr, hv, beq_iff_eq] at h
  omega
theorem en_L1 {E : EE} {nL : Nat} {lv : LVs} {ls ls' : Array Slot} {i : Nat} {v : Value} (_ : en_L E nL lv ls) (hc : en_fr lv i = true) (h9 : lv_has ls' nL ((i, en_v E v) :: (en_as E 0 lv).filter (fun q => !(q.1 == i) && !(q.1 + 1 == i && q.2.category == 2)))) : en_L E nL (lv.set i (some v)) ls' := by
  refine ⟨h9.1, h9.2.1, fun j w hw => ?_⟩
  by_cases hj : i = j
  · subst hj
    rw [List.getElem?_set] at hw
    simp only [if_true] at hw
    split at hw
    · cases hw
      exact h9.2.2 (i, en_v E v) List.mem_cons_self
    · cases hw
  · rw [List.getElem?_set_ne hj] at hw
    refine h9.2.2 (j, en_v E w) (List.mem_cons_of_mem _ (List.mem_filter.mpr ⟨by have := en_as_in E lv 0 j w hw; rwa [Nat.zero_add] at this, ?_⟩))
    have e1 : (j == i) = false := by simp; omega
    by_cases hk : j + 1 = i
    · have := en_fr_spec hc hk hw
      simp [e1, en_cat, this]
    · simp [e1, hk]
theorem en_L2 {E : EE} {nL : Nat} {lv : LVs} {ls ls' : Array Slot} {i : Nat} {v : Value} (_ : en_L E nL lv ls) (hc : en_fr lv i = true) (h9 : lv_has ls' nL ((i, en_v E v) :: (en_as E 0 lv).filter (fun q => !(q.1 == i) && (!(q.1 == i + 1) && !(q.1 + 1 == i && q.2.category == 2))))) : en_L E nL ((lv.set i (some v)).set (i + 1) none) ls' := by
  refine ⟨h9.1, h9.2.1, fun j w hw => ?_⟩
  by_cases h2 : i + 1 = j
  · subst h2
    rw [List.getElem?_set] at hw
    simp only [if_true] at hw
    split at hw <;> cases hw
  rw [List.getElem?_set_ne h2] at hw
  by_cases hj : i = j
  · subst hj
    rw [List.getElem?_set] at hw
    simp only [if_true] at hw
    split at hw
    · cases hw
      exact h9.2.2 (i, en_v E v) List.mem_cons_self
    · cases hw
  · rw [List.getElem?_set_ne hj] at hw
    refine h9.2.2 (j, en_v E w) (List.mem_cons_of_mem _ (List.mem_filter.mpr ⟨by have := en_as_in E lv 0 j w hw; rwa [Nat.zero_add] at this, ?_⟩))
    have e1 : (j == i) = false := by simp; omega
    have e2 : (j == i + 1) = false := by simp; omega
    by_cases hk : j + 1 = i
    · have := en_fr_spec hc hk hw
      simp [e1, e2, en_cat, this]
    · simp [e1, e2, hk]
def en_rm (d mc ms : Nat) : Room := { frames := d, cells := mc, slots := ms, locals := 64 * d }
def en_Q (E : EE) (post : Outc → HP → Prop) : Array Value → State → Outcome → State → Prop := fun _ st o t => ∃ (v : Option Value) (h : HP), o = .returned (v.map (en_v E)) ∧ post (.inl v) h ∧ en_R E h t.heap ∧ va_F (en_A E) st t
def en_XC (E : EE) (post : Outc → HP → Prop) : String → State → State → Prop := fun N st t => ∃ h : HP, post (.inr N) h ∧ en_R E h t.heap ∧ va_F (en_A E) st t
def en_P (E : EE) (as : List Value) (h : HP) : Array Value → State → Prop := fun a U => a = (as.map (en_v E)).toArray ∧ en_R E h U.heap ∧ en_G E U
/-- the word of a method's code -/
def en_hw (M : MRec) : Cond := match M.2.2.2.2 with
  | [] => Cond.code M.1 M.2.1 M.2.2.1 M.2.2.2.1
  | z :: t => Cond.codeWith M.1 M.2.1 M.2.2.1 M.2.2.2.1 (z :: t)
/-- a method's contract: from these arguments and this heap it returns or throws as post says -/
def en_C (l : Launch) (E : EE) (M : MRec) (d mc ms : Nat) (as : List Value) (h : HP) (post : Outc → HP → Prop) : Prop := vx_Met l M.1 (en_hw M :: WS) (en_rm d mc ms) (en_P E as h) (en_Q E post) (en_XC E post) mc ms (en_A E)
/-- what stays true of a method's frame while it runs -/
def en_K (l : Launch) (E : EE) (M : MRec) (p : Program) (s : State) (m : MethodId) (args : Array Value) (meth : Method) (c : Code) : Prop :=
  p.tables.exec = Jvm.exec ∧ c.code = M.2.1 ∧ c.maxLocals = M.2.2.1 ∧ s.vm.findClass M.1.cls = some m.cls ∧ (∀ w ∈ WS, w.before args s = true) ∧ en_G E s ∧ meth.locks = false ∧ meth.sig.returnType = M.2.2.2.1 ∧ c.exceptionTable.toList = tableOf M.2.2.2.2 ∧ meth.name = M.1.name ∧ l.stackTraces = false ∧ en_b E ≤ s.heap.size
theorem en_tab0 {l : Launch} {E : EE} {M : MRec} {p : Program} {s : State} {m : MethodId} {args : Array Value} {meth : Method} {c : Code} (K : en_K l E M p s m args meth c) (h0 : M.2.2.2.2 = []) : ∀ x ∈ c.exceptionTable.toList, False := by
  intro x hx
  rw [K.2.2.2.2.2.2.2.2.1, h0] at hx
  cases hx
theorem en_hw0 {M : MRec} (h0 : M.2.2.2.2 = []) : en_hw M = Cond.code M.1 M.2.1 M.2.2.1 M.2.2.2.1 := by unfold en_hw; rw [h0]
theorem en_hwc {M : MRec} {z : Nat × Nat × Nat × Nat} {t : List (Nat × Nat × Nat × Nat)} (h0 : M.2.2.2.2 = z :: t) : en_hw M = Cond.codeWith M.1 M.2.1 M.2.2.1 M.2.2.2.1 M.2.2.2.2 := by unfold en_hw; rw [h0]
/-- from here the method returns or throws as post says -/
def XX (l : Launch) (E : EE) (M : MRec) (d mc ms : Nat) (post : Outc → HP → Prop) (pc : Nat) (lv : LVs) (st : List Value) (h : HP) (cu su : Nat) : Prop :=
  ∀ (p : Program) (e : Env) (s : State) (m : MethodId) (args : Array Value) (below : List Frame) (meth : Method) (c : Code) (H : Heap) (locs : List Loc) (ls : Array Slot), en_K l E M p s m args meth c → en_R E h H → va_S (en_A E) s.heap H locs → en_L E M.2.2.1 lv ls →
    W p l e (en_rm d mc ms) s m args below meth c H locs cu su (vx_MQ below (en_Q E post) (en_XC E post) args s mc ms (en_A E)) (F0 m pc ls (st.map (en_v E)))
end JDG
