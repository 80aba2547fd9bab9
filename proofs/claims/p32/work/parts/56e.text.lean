section SHX
/-- the byte that stands here, -1 at the end -/
def hrc_ (σ : SG) : Int := if σ kR_at 0 < σ kR_size 0 then q_ian (w8 (σ kR_tape (σ kR_at 0))) 255 else -1
theorem sl10 : sLen 10 = 90 := by decide +kernel
def ks_ (j : Nat) : Bool := decide (sChr 10 j = 32)
theorem ks_8 : ∀ k : Nat, k < 90 → ks_ k = true → ct_ k ks_ + 1 ≤ 8 := by decide +kernel
theorem ks_w : ∀ k : Nat, k < 90 → w32 (sChr 10 (k : Nat)) = sChr 10 (k : Nat) := by decide +kernel
theorem ks_i {k : Int} (h0 : 0 ≤ k) (h1 : k < 90) : w32 (sChr 10 k) = sChr 10 k ∧ (sChr 10 k = 32 → ct_ (k + 1).toNat ks_ = ct_ k.toNat ks_ + 1 ∧ ct_ k.toNat ks_ + 1 ≤ 8) ∧ (¬ sChr 10 k = 32 → ct_ (k + 1).toNat ks_ = ct_ k.toNat ks_) := by
  have e : ((k.toNat : Nat) : Int) = k := by omega
  have n : (k + 1).toNat = k.toNat + 1 := by omega
  have a := ks_w k.toNat (by omega)
  rw [e] at a
  have u : ct_ (k.toNat + 1) ks_ = ct_ k.toNat ks_ + (if ks_ k.toNat = true then 1 else 0) := rfl
  have d : ks_ k.toNat = decide (sChr 10 k = 32) := by unfold ks_; rw [e]
  refine ⟨a, fun q => ?_, fun q => ?_⟩
  · have t : ks_ k.toNat = true := by rw [d]; exact decide_eq_true q
    rw [n, u, if_pos t]
    exact ⟨rfl, ks_8 k.toNat (by omega) t⟩
  · have t : ks_ k.toNat = false := by rw [d]; exact decide_eq_false q
    rw [n, u, if_neg (by rw [t]; decide)]; rfl
/-- digits and dots from a to b -/
def DG (σ : SG) (a b : Int) : Prop := ∀ i, a ≤ i → i < b → (48 ≤ σ kR_tape i ∧ σ kR_tape i ≤ 57) ∨ σ kR_tape i = 46
theorem q_ian255 {x : Int} (h : -128 ≤ x ∧ x ≤ 127) : q_ian (w8 x) 255 = if 0 ≤ x then x else x + 256 := by
  have : ∀ y : Int, -128 ≤ y → y ≤ 127 → q_ian (w8 y) 255 = if 0 ≤ y then y else y + 256 := by
    intro y h0 h1
    have k : ∀ z : Fin 256, q_ian (w8 ((z : Nat) - 128 : Int)) 255 = if 0 ≤ ((z : Nat) - 128 : Int) then ((z : Nat) - 128 : Int) else ((z : Nat) - 128 : Int) + 256 := by decide +kernel
    have := k ⟨(y + 128).toNat, by omega⟩
    simp only at this
    rw [show (((y + 128).toNat : Nat) : Int) - 128 = y by omega] at this
    exact this
  exact this x h.1 h.2
theorem hr_d {σ : SG} (hσ : II σ) (h : 0 ≤ hrc_ σ ∧ hrc_ σ ≤ 127) : σ kR_at 0 < σ kR_size 0 ∧ σ kR_tape (σ kR_at 0) = hrc_ σ := by
  unfold hrc_ at *
  have b := ii_kR_tape hσ (σ kR_at 0)
  by_cases q : σ kR_at 0 < σ kR_size 0
  · rw [if_pos q] at *
    rw [q_ian255 b] at *
    refine ⟨q, ?_⟩
    split <;> split at h <;> omega
  · rw [if_neg q] at h; omega
end SHX
