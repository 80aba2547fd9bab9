section MDL
variable {α β γ S R : Type}
/-- the words of the models -/
def bd_ (o : Option α) (k : α → Option β) : Option β := match o with
  | none => none
  | some x => k x
/-- a region that may leave early with the whole's result -/
def bx_ (o : Option (α ⊕ β)) (k : α → Option β) : Option β := match o with
  | none => none
  | some (.inl x) => k x
  | some (.inr r) => some r
/-- a call that may throw -/
def bt_ (o : Option ((α ⊕ Nat) × SG)) (k : α → SG → Option ((β ⊕ Nat) × SG)) : Option ((β ⊕ Nat) × SG) := match o with
  | none => none
  | some (.inl x, s) => k x s
  | some (.inr e, s) => some (.inr e, s)
def rd_ (σ : SG) (c : Nat) (N i : Int) (k : Int → Option β) : Option β := if 0 ≤ i ∧ i < N then k (σ c i) else none
/-- a row's element written -/
def wa_ (σ : SG) (c : Nat) (N i v : Int) (k : SG → Option β) : Option β := if 0 ≤ i ∧ i < N then k (sg σ c i v) else none
/-- a field written -/
def wf_ (σ : SG) (c : Nat) (v : Int) (k : SG → Option β) : Option β := k (sg σ c 0 v)
def ck_ (p : Prop) [Decidable p] (k : Option β) : Option β := if p then k else none
def lt_ (x : α) (k : α → Option β) : Option β := k x
def lp_ (b : S → Option (S ⊕ R)) : Nat → S → Option R
  | 0, _ => none
  | n + 1, s => match b s with
    | none => none
    | some (.inl s') => lp_ b n s'
    | some (.inr r) => some r
noncomputable def whl_ (b : S → Option (S ⊕ R)) (s : S) : Option R := @dite _ (∃ n r, lp_ b n s = some r) (Classical.propDecidable _) (fun h => some h.choose_spec.choose) (fun _ => none)
theorem lp_mono (b : S → Option (S ⊕ R)) : ∀ (n m : Nat) (s : S) (r : R), n ≤ m → lp_ b n s = some r → lp_ b m s = some r := by
  intro n
  induction n with
  | zero => intro m s r _ h; cases h
  | succ n ih =>
    intro m s r hm h
    obtain ⟨m, rfl⟩ : ∃ k, m = k + 1 := ⟨m - 1, by omega⟩
    unfold lp_ at h ⊢
    cases hb : b s with
    | none => rw [hb] at h; cases h
    | some x =>
      rw [hb] at h
      cases x with
      | inl s' => exact ih m s' r (by omega) h
      | inr r' => exact h
theorem lp_det (b : S → Option (S ⊕ R)) {n m : Nat} {s : S} {r q : R} (h1 : lp_ b n s = some r) (h2 : lp_ b m s = some q) : r = q := by
  have a := lp_mono b n (max n m) s r (Nat.le_max_left _ _) h1
  have c := lp_mono b m (max n m) s q (Nat.le_max_right _ _) h2
  rw [a] at c
  exact Option.some.inj c
theorem whl_of {b : S → Option (S ⊕ R)} {s : S} {n : Nat} {r : R} (h : lp_ b n s = some r) : whl_ b s = some r := by
  unfold whl_
  have hh : ∃ n r, lp_ b n s = some r := ⟨n, r, h⟩
  rw [dif_pos hh]
  exact congrArg some (lp_det b hh.choose_spec.choose_spec h)
theorem whl_e {b : S → Option (S ⊕ R)} {s : S} {r : R} (h : whl_ b s = some r) : ∃ n, lp_ b n s = some r := by
  unfold whl_ at h
  by_cases hh : ∃ n r, lp_ b n s = some r
  · rw [dif_pos hh] at h
    exact ⟨hh.choose, by rw [← Option.some.inj h]; exact hh.choose_spec.choose_spec⟩
  · rw [dif_neg hh] at h; cases h
/-- one round -/
theorem whl_1 (b : S → Option (S ⊕ R)) (s : S) : whl_ b s = (match b s with
  | none => none
  | some (.inl s') => whl_ b s'
  | some (.inr r) => some r) := by
  apply Option.ext
  intro r
  constructor
  · intro h
    obtain ⟨n, hn⟩ := whl_e h
    cases n with
    | zero => cases hn
    | succ n =>
      unfold lp_ at hn
      cases hb : b s with
      | none => rw [hb] at hn; cases hn
      | some x =>
        rw [hb] at hn
        cases x with
        | inl s' => exact whl_of hn
        | inr r' => exact hn
  · intro h
    cases hb : b s with
    | none => rw [hb] at h; cases h
    | some x =>
      rw [hb] at h
      cases x with
      | inl s' =>
        obtain ⟨n, hn⟩ := whl_e h
        exact whl_of (n := n + 1) (by unfold lp_; rw [hb]; exact hn)
      | inr r' => exact whl_of (n := 1) (by unfold lp_; rw [hb]; exact h)
/-- from a loop that ends to what holds at its head -/
theorem whl_go {b : S → Option (S ⊕ R)} {s : S} {r : R} (h : whl_ b s = some r) (P : S → Prop) (hs : ∀ s o, b s = some o → (∀ s', o = .inl s' → P s') → (∀ r', o = .inr r' → r' = r) → P s) : P s := by
  obtain ⟨n, hn⟩ := whl_e h
  clear h
  induction n generalizing s with
  | zero => cases hn
  | succ n ih =>
    unfold lp_ at hn
    cases hb : b s with
    | none => rw [hb] at hn; cases hn
    | some x =>
      rw [hb] at hn
      refine hs s x hb (fun s' e => ?_) (fun r' e => ?_)
      · subst e; exact ih hn
      · subst e; exact Option.some.inj hn
/-- a loop with an invariant and a measure ends -/
theorem whl_inv {b : S → Option (S ⊕ R)} (I : S → Prop) (m : S → Nat) (Q : R → Prop) (hb : ∀ s, I s → ∃ o, b s = some o ∧ (∀ s', o = .inl s' → I s' ∧ m s' < m s) ∧ (∀ r, o = .inr r → Q r)) {s : S} (hs : I s) : ∃ r, whl_ b s = some r ∧ Q r := by
  generalize hn : m s = n
  induction n using Nat.strongRecOn generalizing s with
  | _ n ih =>
    obtain ⟨o, h1, h2, h3⟩ := hb s hs
    rw [whl_1, h1]
    cases o with
    | inl s' =>
      obtain ⟨a, c⟩ := h2 s' rfl
      exact ih (m s') (by omega) a rfl
    | inr r => exact ⟨r, rfl, h3 r rfl⟩
theorem bd_e {o : Option α} {k : α → Option β} {r : β} (h : bd_ o k = some r) : ∃ x, o = some x ∧ k x = some r := by
  cases o with
  | none => cases h
  | some x => exact ⟨x, rfl, h⟩
theorem bx_e {o : Option (α ⊕ β)} {k : α → Option β} {r : β} (h : bx_ o k = some r) : ∃ x, o = some x ∧ (∀ v, x = .inl v → k v = some r) ∧ (∀ q, x = .inr q → q = r) := by
  cases o with
  | none => cases h
  | some x =>
    refine ⟨x, rfl, fun v e => ?_, fun q e => ?_⟩
    · subst e; exact h
    · subst e; exact Option.some.inj h
theorem bt_e {o : Option ((α ⊕ Nat) × SG)} {k : α → SG → Option ((β ⊕ Nat) × SG)} {r : (β ⊕ Nat) × SG} (h : bt_ o k = some r) : ∃ x s, o = some (x, s) ∧ (∀ v, x = .inl v → k v s = some r) ∧ (∀ e, x = .inr e → r = (.inr e, s)) := by
  match o, h with
  | some (.inl x, s), h => exact ⟨_, s, rfl, fun v e => by cases e; exact h, fun e q => nomatch q⟩
  | some (.inr x, s), h => exact ⟨_, s, rfl, (fun v e => nomatch e), fun e q => by cases q; exact (Option.some.inj h).symm⟩
theorem rd_e {σ : SG} {c : Nat} {N i : Int} {k : Int → Option β} {r : β} (h : rd_ σ c N i k = some r) : ∃ x, x = σ c i ∧ (0 ≤ i ∧ i < N) ∧ k x = some r := by
  unfold rd_ at h
  by_cases q : 0 ≤ i ∧ i < N
  · rw [if_pos q] at h; exact ⟨_, rfl, q, h⟩
  · rw [if_neg q] at h; cases h
theorem wa_e {σ : SG} {c : Nat} {N i v : Int} {k : SG → Option β} {r : β} (h : wa_ σ c N i v k = some r) : ∃ τ, τ = sg σ c i v ∧ (0 ≤ i ∧ i < N) ∧ k τ = some r := by
  unfold wa_ at h
  by_cases q : 0 ≤ i ∧ i < N
  · rw [if_pos q] at h; exact ⟨_, rfl, q, h⟩
  · rw [if_neg q] at h; cases h
theorem wf_e {σ : SG} {c : Nat} {v : Int} {k : SG → Option β} {r : β} (h : wf_ σ c v k = some r) : ∃ τ, τ = sg σ c 0 v ∧ k τ = some r := ⟨_, rfl, h⟩
theorem ck_e {p : Prop} [Decidable p] {k : Option β} {r : β} (h : ck_ p k = some r) : p ∧ k = some r := by
  unfold ck_ at h
  by_cases q : p
  · rw [if_pos q] at h; exact ⟨q, h⟩
  · rw [if_neg q] at h; cases h
theorem lt_e {x : α} {k : α → Option β} {r : β} (h : lt_ x k = some r) : ∃ y, x = y ∧ k y = some r := ⟨_, rfl, h⟩
theorem if_e {p : Prop} [Decidable p] {a b c : α} (h : (if p then a else b) = c) : (p ∧ a = c) ∨ (¬ p ∧ b = c) := by
  by_cases q : p
  · rw [if_pos q] at h; exact Or.inl ⟨q, h⟩
  · rw [if_neg q] at h; exact Or.inr ⟨q, h⟩
/-- the same, the other way: what is to be shown of a model -/
def wp_ (o : Option α) (Q : α → Prop) : Prop := ∃ r, o = some r ∧ Q r
theorem wp_some {x : α} {Q : α → Prop} (h : Q x) : wp_ (some x) Q := ⟨x, rfl, h⟩
theorem wp_mono {o : Option α} {P Q : α → Prop} (h : wp_ o P) (hq : ∀ x, P x → Q x) : wp_ o Q := by
  obtain ⟨r, h1, h2⟩ := h
  exact ⟨r, h1, hq r h2⟩
theorem wp_bd {o : Option α} {k : α → Option β} {P : α → Prop} {Q : β → Prop} (h : wp_ o P) (hk : ∀ x, o = some x → P x → wp_ (k x) Q) : wp_ (bd_ o k) Q := by
  obtain ⟨r, h1, h2⟩ := h
  have h3 := hk r h1 h2
  subst h1
  exact h3
theorem wp_bx {o : Option (α ⊕ β)} {k : α → Option β} {P : α → Prop} {Q : β → Prop} (h : wp_ o (fun x => (∀ v, x = .inl v → P v) ∧ ∀ q, x = .inr q → Q q)) (hk : ∀ v, P v → wp_ (k v) Q) : wp_ (bx_ o k) Q := by
  obtain ⟨r, h1, h2, h3⟩ := h
  subst h1
  cases r with
  | inl v => exact hk v (h2 v rfl)
  | inr q => exact ⟨q, rfl, h3 q rfl⟩
theorem wp_rd {σ : SG} {c : Nat} {N i : Int} {k : Int → Option β} {Q : β → Prop} (h1 : 0 ≤ i) (h2 : i < N) (hk : wp_ (k (σ c i)) Q) : wp_ (rd_ σ c N i k) Q := by
  unfold rd_; rw [if_pos ⟨h1, h2⟩]; exact hk
theorem wp_wa {σ : SG} {c : Nat} {N i v : Int} {k : SG → Option β} {Q : β → Prop} (h1 : 0 ≤ i) (h2 : i < N) (hk : wp_ (k (sg σ c i v)) Q) : wp_ (wa_ σ c N i v k) Q := by
  unfold wa_; rw [if_pos ⟨h1, h2⟩]; exact hk
theorem wp_wf {σ : SG} {c : Nat} {v : Int} {k : SG → Option β} {Q : β → Prop} (hk : wp_ (k (sg σ c 0 v)) Q) : wp_ (wf_ σ c v k) Q := hk
theorem wp_ck {p : Prop} [Decidable p] {k : Option β} {Q : β → Prop} (h : p) (hk : wp_ k Q) : wp_ (ck_ p k) Q := by
  unfold ck_; rw [if_pos h]; exact hk
theorem wp_if {p : Prop} [Decidable p] {a b : Option α} {Q : α → Prop} (h1 : p → wp_ a Q) (h2 : ¬ p → wp_ b Q) : wp_ (if p then a else b) Q := by
  by_cases q : p
  · rw [if_pos q]; exact h1 q
  · rw [if_neg q]; exact h2 q
theorem wp_whl {b : S → Option (S ⊕ R)} (I : S → Prop) (m : S → Nat) {Q : R → Prop} {s : S} (hs : I s) (hb : ∀ s, I s → wp_ (b s) (fun o => (∀ s', o = .inl s' → I s' ∧ m s' < m s) ∧ (∀ r, o = .inr r → Q r))) : wp_ (whl_ b s) Q := whl_inv I m Q hb hs
end MDL
