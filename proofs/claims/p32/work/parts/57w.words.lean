section WRW
def fq_ (pl : Int → Int) : Nat → Int → Int
  | 0, p => p
  | n + 1, p => fq_ pl n (p + eL pl p)
def ft_ (pl : Int → Int) : Nat → Int → Int
  | 0, _ => 0
  | n + 1, p => eP pl p + ft_ pl n (p + eL pl p)
/-- entries that are no collections -/
def PK (pl : Int → Int) : Nat → Int → Prop
  | 0, _ => True
  | n + 1, p => pl p ≤ 3 ∧ PK pl n (p + eL pl p)
theorem FL_fq {pl : Int → Int} : ∀ {m : Nat} {p q t : Int}, FL pl m p q t → fq_ pl m p = q ∧ ft_ pl m p = t
  | 0, p, q, t, h => ⟨h.1, h.2.symm⟩
  | m + 1, p, q, t, h => by
    obtain ⟨a, b⟩ := FL_fq h.2
    exact ⟨a, by show eP pl p + ft_ pl m (p + eL pl p) = t; omega⟩
theorem PT_PK {pl : Int → Int} {k : Int} (hk : k ≤ 3) : ∀ {n : Nat} {p q : Int}, PT pl k n p q → PK pl n p ∧ fq_ pl n p = q
  | 0, p, q, h => ⟨trivial, h⟩
  | n + 1, p, q, h => by
    obtain ⟨a, b, c⟩ := h
    obtain ⟨x, y⟩ := PT_PK hk c
    exact ⟨⟨by omega, x⟩, y⟩
/-- of a flat row the first n entries -/
theorem FL_part {pl : Int → Int} : ∀ {n m : Nat} {p q t r : Int}, FL pl m p q t → fq_ pl n p = r → r ≤ q → (∀ j, j < n → True) → (n ≤ m → FL pl n p r (ft_ pl n p) ∧ FL pl (m - n) r q (t - ft_ pl n p))
  | 0, m, p, q, t, r, h, hr, _, _ => fun _ => by
    have e : p = r := hr
    subst e
    exact ⟨⟨rfl, rfl⟩, by show FL pl m p q (t - 0); rw [Int.sub_zero]; exact h⟩
  | n + 1, 0, p, q, t, r, h, hr, _, _ => fun z => absurd z (by omega)
  | n + 1, m + 1, p, q, t, r, h, hr, hq, _ => fun z => by
    obtain ⟨a, b⟩ := FL_part (n := n) h.2 hr hq (fun _ _ => trivial) (by omega)
    refine ⟨⟨h.1, ?_⟩, ?_⟩
    · rw [show ft_ pl (n + 1) p - eP pl p = ft_ pl n (p + eL pl p) by show eP pl p + ft_ pl n (p + eL pl p) - eP pl p = _; omega]; exact a
    · rw [show m + 1 - (n + 1) = m - n by omega, show t - ft_ pl (n + 1) p = t - eP pl p - ft_ pl n (p + eL pl p) by show t - (eP pl p + ft_ pl n (p + eL pl p)) = _; omega]; exact b
theorem FL_n {pl : Int → Int} : ∀ {n m : Nat} {p q t : Int}, FL pl m p q t → fq_ pl n p ≤ q → (∀ i, i < n → fq_ pl i p < fq_ pl (i + 1) p) → n ≤ m
  | 0, m, p, q, t, _, _, _ => Nat.zero_le _
  | n + 1, 0, p, q, t, h, hq, hi => by
    have e : p = q := h.1
    have mono : ∀ k, k ≤ n + 1 → p + k ≤ fq_ pl k p := by
      intro k
      induction k with
      | zero => intro _; show p + 0 ≤ p; omega
      | succ k ih => intro hk; have := ih (by omega); have := hi k (by omega); omega
    have := mono (n + 1) (Nat.le_refl _)
    omega
  | n + 1, m + 1, p, q, t, h, hq, hi => by
    have := FL_n (n := n) h.2 hq (fun i a => hi (i + 1) (by omega))
    omega
/-- what follows an entry: levels not yet shut -/
def RM (pl left : Int → Int) : Nat → Int → Int → Prop
  | 0, p, q => p = q
  | l + 1, p, q => 1 ≤ left l ∧ left l ≤ 2048 ∧ ∃ r f, TU pl f (49 - l) (left l - 1).toNat p r ∧ RM pl left l r q
theorem RM_cg {pl la lb : Int → Int} : ∀ {l : Nat} {p q : Int}, RM pl la l p q → (∀ i : Int, 0 ≤ i → i < l → lb i = la i) → RM pl lb l p q
  | 0, p, q, h, _ => h
  | l + 1, p, q, h, hc => by
    obtain ⟨a, b, r, f, c, d⟩ := h
    have e := hc l (by omega) (by omega)
    exact ⟨by rw [e]; exact a, by rw [e]; exact b, r, f, by rw [e]; exact c, RM_cg d (fun i x y => hc i x (by omega))⟩
theorem RM_le {pl left : Int → Int} : ∀ {l : Nat} {p q : Int}, RM pl left l p q → p ≤ q
  | 0, p, q, h => by have : p = q := h; omega
  | l + 1, p, q, h => by
    obtain ⟨a, b, r, f, c, d⟩ := h
    have := TU_le c
    have := RM_le d
    omega
/-- one more of several -/
theorem TU_one {pl : Int → Int} {f d n : Nat} {p q : Int} (h : TU pl f d (n + 1) p q) : ∃ r g, TU pl g d 1 p r ∧ TU pl g d n r q := by
  cases f with
  | zero => obtain ⟨a, _⟩ := h; omega
  | succ f =>
    rcases h with ⟨a, _⟩ | ⟨_, r, b, c⟩
    · omega
    · refine ⟨r, f + 1, Or.inr ⟨by omega, r, b, ?_⟩, TU_up c (by omega) (Nat.le_refl _)⟩
      cases f with
      | zero => exact ⟨rfl, rfl⟩
      | succ f => exact Or.inl ⟨rfl, rfl⟩
theorem TU_0 {pl : Int → Int} {f d : Nat} {p q : Int} (h : TU pl f d 0 p q) : p = q := by
  cases f with
  | zero => exact h.2
  | succ f => rcases h with ⟨_, b⟩ | ⟨a, _⟩ <;> omega
/-- an entry comes, and what follows it -/
def HD (pl left : Int → Int) (l : Nat) (p q : Int) : Prop := ∃ r f, TU pl f (50 - l) 1 p r ∧ RM pl left l r q
theorem TU_1 {pl : Int → Int} {f d : Nat} {p r : Int} (h : TU pl f d 1 p r) : (1 ≤ pl p ∧ pl p ≤ 3 ∧ 0 ≤ pl (p + 1) ∧ r = p + eL pl p) ∨ (4 ≤ pl p ∧ pl p ≤ 6 ∧ 0 ≤ pl (p + 1) ∧ PT pl (pl p - 3) (pl (p + 1)).toNat (p + 2) r) ∨ (pl p = 7 ∧ 0 ≤ pl (p + 1) ∧ 0 < d ∧ ∃ g, TU pl g (d - 1) (pl (p + 1)).toNat (p + 2) r) := by
  cases f with
  | zero => obtain ⟨a, _⟩ := h; omega
  | succ f =>
    rcases h with ⟨a, _⟩ | ⟨_, t, b, c⟩
    · omega
    · have e := TU_0 c
      subst e
      rcases b with ⟨b1, b2, b3, b4⟩ | ⟨b1, b2, b3, b4⟩ | ⟨b1, b2, b3, b4⟩
      · exact Or.inl ⟨b1, b2, b3, b4⟩
      · exact Or.inr (Or.inl ⟨b1, b2, b3, b4⟩)
      · exact Or.inr (Or.inr ⟨b1, b2, b3, f, b4⟩)
theorem RM_go {pl la lb : Int → Int} {l : Nat} {p q : Int} (h : RM pl la (l + 1) p q) (e : lb l = la l - 1) (hc : ∀ i : Int, i ≠ l → lb i = la i) : (0 < lb l → HD pl lb (l + 1) p q) ∧ (¬ 0 < lb l → RM pl lb l p q) := by
  obtain ⟨a, b, r, f, c, d⟩ := h
  have d2 := RM_cg d (fun i _ y => hc i (by omega))
  refine ⟨fun z => ?_, fun z => ?_⟩
  · rw [show (la l - 1).toNat = (lb l - 1).toNat + 1 by omega] at c
    obtain ⟨r1, g, c1, c2⟩ := TU_one c
    exact ⟨r1, g, by rw [show 50 - (l + 1) = 49 - l by omega]; exact c1, ⟨by omega, by omega, r, g, c2, d2⟩⟩
  · rw [show (la l - 1).toNat = 0 by omega] at c
    have := TU_0 c
    subst this
    exact d2
theorem HD_push {pl la lb : Int → Int} {l : Nat} {p q r n : Int} {f : Nat} (hl : l < 50) (hn : 1 ≤ n ∧ n ≤ 2048) (t : TU pl f (50 - l - 1) n.toNat p r) (h : RM pl la l r q) (e : lb l = n) (hc : ∀ i : Int, i ≠ l → lb i = la i) : HD pl lb (l + 1) p q := by
  rw [show n.toNat = (n - 1).toNat + 1 by omega] at t
  obtain ⟨r1, g, c1, c2⟩ := TU_one t
  exact ⟨r1, g, by rw [show 50 - (l + 1) = 50 - l - 1 by omega]; exact c1, ⟨by omega, by omega, r, g, by rw [show 49 - l = 50 - l - 1 by omega, e]; exact c2, RM_cg h (fun i _ y => hc i (by omega))⟩⟩
end WRW
