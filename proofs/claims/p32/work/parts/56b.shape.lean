section SHP
variable {α β : Type}
/-- to walk on at each end of a region -/
theorem wp_bdk {o : Option α} {k : α → Option β} {Q : β → Prop} (h : wp_ o (fun x => wp_ (k x) Q)) : wp_ (bd_ o k) Q := by
  obtain ⟨r, h1, h2⟩ := h
  subst h1
  exact h2
theorem wp_somek {x : α} {k : α → Option β} {Q : β → Prop} (h : wp_ (k x) Q) : wp_ (some x) (fun y => wp_ (k y) Q) := ⟨x, rfl, h⟩
theorem wp_tt {a b : Option α} {Q : α → Prop} (h : wp_ a Q) : wp_ (if (true = true) then a else b) Q := by rw [if_pos rfl]; exact h
theorem wp_ft {a b : Option α} {Q : α → Prop} (h : wp_ b Q) : wp_ (if (false = true) then a else b) Q := by rw [if_neg (by decide)]; exact h
theorem bd_if {c : Prop} [Decidable c] {a b : Option α} {k : α → Option β} : bd_ (if c then a else b) k = if c then bd_ a k else bd_ b k := by split <;> rfl
/-- plans, flat. su_: a sum of plan numbers -/
def su_ (pl : Int → Int) (p : Int) : Nat → Int
  | 0 => 0
  | n + 1 => su_ pl p n + pl (p + n)
theorem su_s (pl : Int → Int) (p : Int) (n : Nat) : su_ pl p (n + 1) = su_ pl p n + pl (p + n) := rfl
theorem su_i {pl : Int → Int} {p k : Int} (h : 0 ≤ k) : su_ pl p (k + 1).toNat = su_ pl p k.toNat + pl (p + k) := by
  have e : (k + 1).toNat = k.toNat + 1 := by omega
  rw [e, su_s, show ((k.toNat : Nat) : Int) = k by omega]
theorem su_cg {pl pm : Int → Int} {p : Int} : ∀ {n : Nat}, (∀ i : Int, p ≤ i → i < p + n → pl i = pm i) → su_ pl p n = su_ pm p n
  | 0, _ => rfl
  | n + 1, h => by
    rw [su_s, su_s, su_cg (n := n) (fun i a b => h i a (by omega)), h (p + n) (by omega) (by omega)]
theorem su_nn {pl : Int → Int} {p : Int} : ∀ {n : Nat}, (∀ i : Int, p ≤ i → i < p + n → 0 ≤ pl i) → 0 ≤ su_ pl p n
  | 0, _ => Int.le_refl 0
  | n + 1, h => by
    have a := su_nn (n := n) (fun i a b => h i a (by omega))
    have b := h (p + n) (by omega) (by omega)
    rw [su_s]; omega
theorem su_le {pl : Int → Int} {p : Int} {m : Nat} : ∀ {n : Nat}, m ≤ n → (∀ i : Int, p ≤ i → i < p + n → 0 ≤ pl i) → su_ pl p m ≤ su_ pl p n
  | 0, h, _ => by have : m = 0 := by omega
                  rw [this]; exact Int.le_refl _
  | n + 1, h, g => by
    by_cases q : m = n + 1
    · rw [q]; exact Int.le_refl _
    · have a := su_le (n := n) (m := m) (by omega) (fun i a b => g i a (by omega))
      have b := g (p + n) (by omega) (by omega)
      rw [su_s]; omega
/-- an entry's length and points, and what a good entry is -/
def eL (pl : Int → Int) (p : Int) : Int := if pl p = 3 then 2 + pl (p + 1) else 2
def eP (pl : Int → Int) (p : Int) : Int := if pl p < 3 then pl (p + 1) else if pl p = 3 then su_ pl (p + 2) (pl (p + 1)).toNat else 0
def eO (pl : Int → Int) (p : Int) : Prop := 1 ≤ pl p ∧ pl p ≤ 7 ∧ (0 ≤ pl (p + 1) ∧ pl (p + 1) ≤ 2048) ∧ (pl p = 1 → pl (p + 1) ≤ 1) ∧ (pl p = 3 → ∀ k, 0 ≤ k → k < pl (p + 1) → 0 ≤ pl (p + 2 + k))
def FL (pl : Int → Int) : Nat → Int → Int → Int → Prop
  | 0, p, q, t => p = q ∧ t = 0
  | m + 1, p, q, t => eO pl p ∧ FL pl m (p + eL pl p) q (t - eP pl p)
theorem eL_2 {pl : Int → Int} {p : Int} (h : eO pl p) : 2 ≤ eL pl p := by
  unfold eL; obtain ⟨_, _, h3, _⟩ := h; split <;> omega
theorem eP_0 {pl : Int → Int} {p : Int} (h : eO pl p) : 0 ≤ eP pl p := by
  unfold eP
  obtain ⟨_, _, h3, _, h5⟩ := h
  split
  · exact h3.1
  · split
    · rename_i a b
      refine su_nn (fun i a1 b1 => ?_)
      have := h5 b (i - (p + 2)) (by omega) (by omega)
      rw [show p + 2 + (i - (p + 2)) = i by omega] at this
      exact this
    · exact Int.le_refl 0
theorem FL_le {pl : Int → Int} : ∀ {m : Nat} {p q t : Int}, FL pl m p q t → p + 2 * m ≤ q ∧ 0 ≤ t
  | 0, p, q, t, h => by obtain ⟨a, b⟩ := h; omega
  | m + 1, p, q, t, h => by
    obtain ⟨a, b⟩ := h
    have c := FL_le b
    have d := eL_2 a
    have e := eP_0 a
    omega
theorem FL_hd {pl : Int → Int} {m : Nat} {p q t : Int} (h : FL pl m p q t) (hp : p < q) : ∃ m', m = m' + 1 ∧ eO pl p ∧ FL pl m' (p + eL pl p) q (t - eP pl p) ∧ 2 ≤ eL pl p ∧ p + eL pl p + 2 * m' ≤ q ∧ 0 ≤ eP pl p ∧ eP pl p ≤ t := by
  cases m with
  | zero => obtain ⟨a, _⟩ := h; omega
  | succ m =>
    obtain ⟨a, b⟩ := h
    have c := FL_le b
    exact ⟨m, rfl, a, b, eL_2 a, by omega, eP_0 a, by omega⟩
theorem eO_cg {pl pm : Int → Int} {p q : Int} (h : eO pl p) (hq : p + eL pl p ≤ q) (hc : ∀ i, p ≤ i → i < q → pm i = pl i) : eO pm p ∧ eL pm p = eL pl p ∧ eP pm p = eP pl p := by
  have l2 := eL_2 h
  have e0 := hc p (by omega) (by omega)
  have e1 := hc (p + 1) (by omega) (by omega)
  have l : eL pm p = eL pl p := by unfold eL; rw [e0, e1]
  obtain ⟨a, b, c, d, e⟩ := h
  refine ⟨⟨by rw [e0]; exact a, by rw [e0]; exact b, by rw [e1]; exact c, by rw [e0, e1]; exact d, fun g k k0 k1 => ?_⟩, l, ?_⟩
  · rw [e0] at g
    rw [e1] at k1
    unfold eL at hq
    rw [if_pos g] at hq
    rw [hc _ (by omega) (by omega)]
    exact e g k k0 k1
  · unfold eP
    rw [e0, e1]
    split
    · rfl
    · split
      · rename_i g
        unfold eL at hq
        rw [if_pos g] at hq
        exact su_cg (fun i i0 i1 => hc i (by omega) (by omega))
      · rfl
theorem FL_cg {pl pm : Int → Int} : ∀ {m : Nat} {p q t : Int}, FL pl m p q t → (∀ i, p ≤ i → i < q → pm i = pl i) → FL pm m p q t
  | 0, p, q, t, h, _ => h
  | m + 1, p, q, t, h, hc => by
    obtain ⟨a, b⟩ := h
    have c := FL_le b
    obtain ⟨d, e, f⟩ := eO_cg (q := q) a (by omega) hc
    have g := eL_2 a
    exact ⟨d, by rw [e, f]; exact FL_cg b (fun i i0 i1 => hc i (by omega) i1)⟩
/-- the same, moved -/
theorem su_mv {pl pm : Int → Int} {p d : Int} : ∀ {n : Nat}, (∀ i : Int, p ≤ i → i < p + n → pm (i + d) = pl i) → su_ pm (p + d) n = su_ pl p n
  | 0, _ => rfl
  | n + 1, h => by
    rw [su_s, su_s, su_mv (n := n) (fun i a b => h i a (by omega)), show p + d + (n : Int) = p + n + d by omega, h (p + n) (by omega) (by omega)]
theorem e_mv {pl pm : Int → Int} {p q d : Int} (h : eO pl p) (hq : p + eL pl p ≤ q) (hc : ∀ i, p ≤ i → i < q → pm (i + d) = pl i) : eO pm (p + d) ∧ eL pm (p + d) = eL pl p ∧ eP pm (p + d) = eP pl p := by
  have l2 := eL_2 h
  have e0 := hc p (by omega) (by omega)
  have e1 : pm (p + d + 1) = pl (p + 1) := by rw [show p + d + 1 = p + 1 + d by omega]; exact hc (p + 1) (by omega) (by omega)
  have l : eL pm (p + d) = eL pl p := by unfold eL; rw [e0, e1]
  obtain ⟨a, b, c, d', e⟩ := h
  refine ⟨⟨by rw [e0]; exact a, by rw [e0]; exact b, by rw [e1]; exact c, by rw [e0, e1]; exact d', fun g k k0 k1 => ?_⟩, l, ?_⟩
  · rw [e0] at g
    rw [e1] at k1
    unfold eL at hq
    rw [if_pos g] at hq
    rw [show p + d + 2 + k = p + 2 + k + d by omega, hc _ (by omega) (by omega)]
    exact e g k k0 k1
  · unfold eP
    rw [e0, e1]
    split
    · rfl
    · split
      · rename_i g
        unfold eL at hq
        rw [if_pos g] at hq
        rw [show p + d + 2 = p + 2 + d by omega]
        exact su_mv (fun i i0 i1 => hc i (by omega) (by omega))
      · rfl
theorem FL_mv {pl pm : Int → Int} {d : Int} : ∀ {m : Nat} {p q t : Int}, FL pl m p q t → (∀ i, p ≤ i → i < q → pm (i + d) = pl i) → FL pm m (p + d) (q + d) t
  | 0, p, q, t, h, _ => by obtain ⟨a, b⟩ := h; exact ⟨by omega, b⟩
  | m + 1, p, q, t, h, hc => by
    obtain ⟨a, b⟩ := h
    have c := FL_le b
    obtain ⟨d', e, f⟩ := e_mv (q := q) a (by omega) hc
    have g := eL_2 a
    refine ⟨d', ?_⟩
    rw [e, f, show p + d + eL pl p = p + eL pl p + d by omega]
    exact FL_mv b (fun i i0 i1 => hc i (by omega) i1)
/-- one more entry at the end -/
theorem FL_app {pl : Int → Int} : ∀ {m : Nat} {p q t : Int}, FL pl m p q t → eO pl q → FL pl (m + 1) p (q + eL pl q) (t + eP pl q)
  | 0, p, q, t, h, g => by
    obtain ⟨a, b⟩ := h
    subst a
    exact ⟨g, rfl, by omega⟩
  | m + 1, p, q, t, h, g => by
    obtain ⟨a, b⟩ := h
    refine ⟨a, ?_⟩
    have c := FL_app b g
    rw [show t + eP pl q - eP pl p = t - eP pl p + eP pl q by omega]
    exact c
/-- parts of a MULTI.. of n entries of one kind -/
def PT (pl : Int → Int) (k : Int) : Nat → Int → Int → Prop
  | 0, p, q => p = q
  | n + 1, p, q => pl p = k ∧ 0 ≤ pl (p + 1) ∧ PT pl k n (p + eL pl p) q
/-- n shapes with all that is in them, f deep at most in rows, d in collections -/
def TU (pl : Int → Int) : Nat → Nat → Nat → Int → Int → Prop
  | 0, _, n, p, q => n = 0 ∧ p = q
  | f + 1, d, n, p, q => (n = 0 ∧ p = q) ∨ (0 < n ∧ ∃ r, ((1 ≤ pl p ∧ pl p ≤ 3 ∧ 0 ≤ pl (p + 1) ∧ r = p + eL pl p) ∨ (4 ≤ pl p ∧ pl p ≤ 6 ∧ 0 ≤ pl (p + 1) ∧ PT pl (pl p - 3) (pl (p + 1)).toNat (p + 2) r) ∨ (pl p = 7 ∧ 0 ≤ pl (p + 1) ∧ 0 < d ∧ TU pl f (d - 1) (pl (p + 1)).toNat (p + 2) r)) ∧ TU pl f d (n - 1) r q)
theorem PT_le {pl : Int → Int} {k : Int} : ∀ {n : Nat} {p q : Int}, PT pl k n p q → p + 2 * n ≤ q
  | 0, p, q, h => by have : p = q := h; omega
  | n + 1, p, q, h => by
    obtain ⟨_, b, c⟩ := h
    have := PT_le c
    have : 2 ≤ eL pl p := by unfold eL; split <;> omega
    omega
theorem TU_le {pl : Int → Int} : ∀ {f d n : Nat} {p q : Int}, TU pl f d n p q → p + 2 * n ≤ q
  | 0, d, n, p, q, h => by obtain ⟨a, b⟩ := h; omega
  | f + 1, d, n, p, q, h => by
    rcases h with ⟨a, b⟩ | ⟨a, r, b, c⟩
    · omega
    · have c' := TU_le c
      rcases b with ⟨_, _, b3, b4⟩ | ⟨_, _, b3, b4⟩ | ⟨_, b3, _, b4⟩
      · have : 2 ≤ eL pl p := by unfold eL; split <;> omega
        omega
      · have := PT_le b4; omega
      · have := TU_le b4; omega
theorem PT_cg {pl pm : Int → Int} {k : Int} : ∀ {n : Nat} {p q : Int}, PT pl k n p q → (∀ i, p ≤ i → i < q → pm i = pl i) → PT pm k n p q
  | 0, p, q, h, _ => h
  | n + 1, p, q, h, hc => by
    obtain ⟨a, b, c⟩ := h
    have l := PT_le c
    have l2 : 2 ≤ eL pl p := by unfold eL; split <;> omega
    have e0 := hc p (by omega) (by omega)
    have e1 := hc (p + 1) (by omega) (by omega)
    have el : eL pm p = eL pl p := by unfold eL; rw [e0, e1]
    exact ⟨by rw [e0]; exact a, by rw [e1]; exact b, by rw [el]; exact PT_cg c (fun i i0 i1 => hc i (by omega) i1)⟩
theorem TU_cg {pl pm : Int → Int} : ∀ {f d n : Nat} {p q : Int}, TU pl f d n p q → (∀ i, p ≤ i → i < q → pm i = pl i) → TU pm f d n p q
  | 0, d, n, p, q, h, _ => h
  | f + 1, d, n, p, q, h, hc => by
    rcases h with ⟨a, b⟩ | ⟨a, r, b, c⟩
    · exact Or.inl ⟨a, b⟩
    · have lc := TU_le c
      have lb : p + 2 ≤ r := by
        rcases b with ⟨_, _, b3, b4⟩ | ⟨_, _, b3, b4⟩ | ⟨_, b3, _, b4⟩
        · have : 2 ≤ eL pl p := by unfold eL; split <;> omega
          omega
        · have := PT_le b4; omega
        · have := TU_le b4; omega
      have e0 := hc p (by omega) (by omega)
      have e1 := hc (p + 1) (by omega) (by omega)
      have el : eL pm p = eL pl p := by unfold eL; rw [e0, e1]
      refine Or.inr ⟨a, r, ?_, TU_cg c (fun i i0 i1 => hc i (by omega) i1)⟩
      rw [e0, e1, el]
      rcases b with ⟨b1, b2, b3, b4⟩ | ⟨b1, b2, b3, b4⟩ | ⟨b1, b3, b5, b4⟩
      · exact Or.inl ⟨b1, b2, b3, b4⟩
      · exact Or.inr (Or.inl ⟨b1, b2, b3, PT_cg b4 (fun i i0 i1 => hc i (by omega) (by omega))⟩)
      · exact Or.inr (Or.inr ⟨b1, b3, b5, TU_cg b4 (fun i i0 i1 => hc i (by omega) (by omega))⟩)
theorem PT_mv {pl pm : Int → Int} {k d : Int} : ∀ {n : Nat} {p q : Int}, PT pl k n p q → (∀ i, p ≤ i → i < q → pm (i + d) = pl i) → PT pm k n (p + d) (q + d)
  | 0, p, q, h, _ => by have : p = q := h; subst this; rfl
  | n + 1, p, q, h, hc => by
    obtain ⟨a, b, c⟩ := h
    have l := PT_le c
    have l2 : 2 ≤ eL pl p := by unfold eL; split <;> omega
    have e0 := hc p (by omega) (by omega)
    have e1 : pm (p + d + 1) = pl (p + 1) := by rw [show p + d + 1 = p + 1 + d by omega]; exact hc (p + 1) (by omega) (by omega)
    have el : eL pm (p + d) = eL pl p := by unfold eL; rw [e0, e1]
    refine ⟨by rw [e0]; exact a, by rw [e1]; exact b, ?_⟩
    rw [el, show p + d + eL pl p = p + eL pl p + d by omega]
    exact PT_mv c (fun i i0 i1 => hc i (by omega) i1)
theorem TU_mv {pl pm : Int → Int} {v : Int} : ∀ {f d n : Nat} {p q : Int}, TU pl f d n p q → (∀ i, p ≤ i → i < q → pm (i + v) = pl i) → TU pm f d n (p + v) (q + v)
  | 0, d, n, p, q, h, _ => by obtain ⟨a, b⟩ := h; exact ⟨a, by omega⟩
  | f + 1, d, n, p, q, h, hc => by
    rcases h with ⟨a, b⟩ | ⟨a, r, b, c⟩
    · exact Or.inl ⟨a, by omega⟩
    · have lc := TU_le c
      have lb : p + 2 ≤ r := by
        rcases b with ⟨_, _, b3, b4⟩ | ⟨_, _, b3, b4⟩ | ⟨_, b3, _, b4⟩
        · have : 2 ≤ eL pl p := by unfold eL; split <;> omega
          omega
        · have := PT_le b4; omega
        · have := TU_le b4; omega
      have e0 := hc p (by omega) (by omega)
      have e1 : pm (p + v + 1) = pl (p + 1) := by rw [show p + v + 1 = p + 1 + v by omega]; exact hc (p + 1) (by omega) (by omega)
      have el : eL pm (p + v) = eL pl p := by unfold eL; rw [e0, e1]
      refine Or.inr ⟨a, r + v, ?_, TU_mv c (fun i i0 i1 => hc i (by omega) i1)⟩
      rw [e0, e1, el]
      rcases b with ⟨b1, b2, b3, b4⟩ | ⟨b1, b2, b3, b4⟩ | ⟨b1, b3, b5, b4⟩
      · exact Or.inl ⟨b1, b2, b3, by omega⟩
      · refine Or.inr (Or.inl ⟨b1, b2, b3, ?_⟩)
        rw [show p + v + 2 = p + 2 + v by omega]
        exact PT_mv b4 (fun i i0 i1 => hc i (by omega) (by omega))
      · refine Or.inr (Or.inr ⟨b1, b3, b5, ?_⟩)
        rw [show p + v + 2 = p + 2 + v by omega]
        exact TU_mv b4 (fun i i0 i1 => hc i (by omega) (by omega))
/-- more room does no harm -/
theorem TU_up {pl : Int → Int} : ∀ {f g d e n : Nat} {p q : Int}, TU pl f d n p q → f ≤ g → d ≤ e → TU pl g e n p q
  | 0, 0, d, e, n, p, q, h, _, _ => h
  | 0, g + 1, d, e, n, p, q, h, _, _ => Or.inl h
  | f + 1, 0, d, e, n, p, q, _, h, _ => absurd h (by omega)
  | f + 1, g + 1, d, e, n, p, q, h, hf, hd => by
    rcases h with ⟨a, b⟩ | ⟨a, r, b, c⟩
    · exact Or.inl ⟨a, b⟩
    · refine Or.inr ⟨a, r, ?_, TU_up c (by omega) hd⟩
      rcases b with b | b | ⟨b1, b2, b3, b4⟩
      · exact Or.inl b
      · exact Or.inr (Or.inl b)
      · exact Or.inr (Or.inr ⟨b1, b2, by omega, TU_up b4 (by omega) (by omega)⟩)
theorem PT_app {pl : Int → Int} {k : Int} : ∀ {n : Nat} {p q : Int}, PT pl k n p q → pl q = k → 0 ≤ pl (q + 1) → PT pl k (n + 1) p (q + eL pl q)
  | 0, p, q, h, a, b => by have : p = q := h; subst this; exact ⟨a, b, rfl⟩
  | n + 1, p, q, h, a, b => by
    obtain ⟨c, d, e⟩ := h
    exact ⟨c, d, PT_app e a b⟩
/-- one more shape (r: a whole one from q on) at the end -/
theorem TU_app {pl : Int → Int} : ∀ {f d n : Nat} {p q r : Int} {g : Nat}, TU pl f d n p q → TU pl g d 1 q r → TU pl (f + g + 1) d (n + 1) p r
  | 0, d, n, p, q, r, g, h, k => by
    obtain ⟨a, b⟩ := h
    subst a; subst b
    exact TU_up k (by omega) (Nat.le_refl _)
  | f + 1, d, n, p, q, r, g, h, k => by
    rcases h with ⟨a, b⟩ | ⟨a, s, b, c⟩
    · subst a; subst b
      exact TU_up k (by omega) (Nat.le_refl _)
    · have t := TU_app c k
      rw [show n - 1 + 1 = n by omega] at t
      rw [show f + 1 + g + 1 = f + g + 1 + 1 by omega]
      refine Or.inr ⟨by omega, s, ?_, by rw [show n + 1 - 1 = n by omega]; exact t⟩
      rcases b with b | b | ⟨b1, b2, b3, b4⟩
      · exact Or.inl b
      · exact Or.inr (Or.inl b)
      · exact Or.inr (Or.inr ⟨b1, b2, b3, TU_up b4 (by omega) (Nat.le_refl _)⟩)
/-- slot s holds nothing, or a shape -/
def SH (σ : SG) (s : Int) : Prop := (σ kR_planMany s = 0 ∧ σ kR_pointMany s = 0) ∨ (2 ≤ σ kR_planMany s ∧ (∃ m, FL (σ kR_plan) m (2048 * s) (2048 * s + σ kR_planMany s) (σ kR_pointMany s)) ∧ ∃ f, TU (σ kR_plan) f 50 1 (2048 * s) (2048 * s + σ kR_planMany s))
theorem SH_fl {σ : SG} {s : Int} (h : SH σ s) : ∃ m, FL (σ kR_plan) m (2048 * s) (2048 * s + σ kR_planMany s) (σ kR_pointMany s) := by
  rcases h with ⟨a, b⟩ | ⟨_, h, _⟩
  · exact ⟨0, by omega, b⟩
  · exact h
theorem SH_fr {σ τ : SG} {ms : List Nat} {s : Int} (f : FR ms σ τ) (h1 : ms.contains kR_plan = false) (h2 : ms.contains kR_planMany = false) (h3 : ms.contains kR_pointMany = false) (h : SH σ s) : SH τ s := by
  have e1 : τ kR_plan = σ kR_plan := funext (FR_at f h1)
  unfold SH
  rw [e1, FR_at f h2, FR_at f h3]
  exact h
/-- all slots -/
def SHs (σ : SG) : Prop := ∀ s, 0 ≤ s → s < 32 → SH σ s
theorem SHs_fr {σ τ : SG} {ms : List Nat} (f : FR ms σ τ) (h1 : ms.contains kR_plan = false) (h2 : ms.contains kR_planMany = false) (h3 : ms.contains kR_pointMany = false) (h : SHs σ) : SHs τ := fun s a b => SH_fr f h1 h2 h3 (h s a b)
end SHP
section SHQ
theorem wp_fails {β : Type} {σ : SG} {is : Bool} {w : Int} {k : Bool × SG → Option β} {Q : β → Prop} (hσ : II σ) (h0 : σ kR_thrown 0 = 0) (hw : 1 ≤ w ∧ w ≤ 4) (h : ∀ τ, II τ → FR [kR_thrown] σ τ → (is = true → τ kR_thrown 0 = w) → (¬ is = true → τ kR_thrown 0 = 0) → wp_ (k (is, τ)) Q) : wp_ (bd_ (fR_fails σ is w) k) Q := by
  have b : bnd kR_thrown = some (0, 4) := b_kR_thrown
  have hz : (0 : Int) ≤ (if is = true ∧ w32 (σ kR_thrown 0) = 0 then w else σ kR_thrown 0) ∧ (if is = true ∧ w32 (σ kR_thrown 0) = 0 then w else σ kR_thrown 0) ≤ 4 := by
    rw [h0, show w32 0 = 0 from w32_of (by decide) (by decide)]
    cases is
    · rw [if_neg (by decide)]; decide
    · rw [if_pos ⟨rfl, rfl⟩]; omega
  have e : fR_fails σ is w = some (is, sg σ kR_thrown 0 (if is = true ∧ w32 (σ kR_thrown 0) = 0 then w else σ kR_thrown 0)) := by
    have key : decide (¬ w32 (sg σ kR_thrown 0 (if is = true ∧ w32 (σ kR_thrown 0) = 0 then w else σ kR_thrown 0) kR_thrown 0) = 0) = is := by
      rw [sg_at, h0, show w32 0 = 0 from w32_of (by decide) (by decide)]
      cases is
      · rw [if_neg (by decide)]
        exact decide_eq_false (fun q => q (w32_of (by decide) (by decide)))
      · rw [if_pos ⟨rfl, rfl⟩, w32_of (x := w) (by omega) (by omega)]
        exact decide_eq_true (by omega)
    show some (decide (¬ w32 (sg σ kR_thrown 0 (if is = true ∧ w32 (σ kR_thrown 0) = 0 then w else σ kR_thrown 0) kR_thrown 0) = 0), sg σ kR_thrown 0 (if is = true ∧ w32 (σ kR_thrown 0) = 0 then w else σ kR_thrown 0)) = _
    rw [key]
  rw [e]
  refine h _ (II_sg hσ (by rw [b]; exact hz)) (FR_sg rfl) (fun q => ?_) (fun q => ?_)
  · rw [sg_at, if_pos ⟨q, by rw [h0]; exact w32_of (by decide) (by decide)⟩]
  · rw [sg_at, if_neg (fun z => q z.1)]; exact h0
end SHQ
