section COST
def P10 (t : Int) : Prop := t = 1 ∨ t = 10 ∨ t = 100 ∨ t = 1000 ∨ t = 10000 ∨ t = 100000 ∨ t = 1000000 ∨ t = 10000000 ∨ t = 100000000 ∨ t = 1000000000
def lg10 (t : Int) : Int := if t < 1 then 0 else if t < 10 then 1 else if t < 100 then 2 else if t < 1000 then 3 else if t < 10000 then 4 else if t < 100000 then 5 else if t < 1000000 then 6 else if t < 10000000 then 7 else if t < 100000000 then 8 else if t < 1000000000 then 9 else 10
theorem lg10_s {t : Int} (h : P10 t) : lg10 t = lg10 (t / 10) + 1 ∧ (t / 10 = 0 ∨ P10 (t / 10)) ∧ lg10 t ≤ 10 ∧ 0 ≤ lg10 (t / 10) ∧ 1 ≤ t ∧ t ≤ 1000000000 := by
  unfold P10 at *
  rcases h with h | h | h | h | h | h | h | h | h | h <;> subst h <;> decide
theorem P10_m {t A : Int} (h : P10 t) (hA : A ≤ 1000000000) (h9 : 9 < A / t) : P10 (t * 10) := by
  unfold P10 at *
  rcases h with h | h | h | h | h | h | h | h | h | h <;> subst h <;> first | decide | omega
theorem ldv_n {x y : Int} (x0 : 0 ≤ x) (x1 : x < 9223372036854775808) (y0 : 0 < y) (y1 : y < 9223372036854775808) : q_ldv x y = x / y := by
  unfold q_ldv
  rw [w64_of (x := x) (by omega) (by omega), w64_of (x := y) (by omega) (by omega)]
  exact Int.tdiv_eq_ediv_of_nonneg x0
theorem lrm_n {x y : Int} (x0 : 0 ≤ x) (x1 : x < 9223372036854775808) (y0 : 0 < y) (y1 : y < 9223372036854775808) : q_lrm x y = x % y := by
  unfold q_lrm
  rw [w64_of (x := x) (by omega) (by omega), w64_of (x := y) (by omega) (by omega)]
  exact Int.tmod_eq_emod_of_nonneg x0
/-- the unit is a power of ten -/
def UNt (σ : SG) : Prop := σ kR_unit 0 = 1 ∨ σ kR_unit 0 = 10 ∨ σ kR_unit 0 = 100 ∨ σ kR_unit 0 = 1000
theorem UNt_f {σ τ : SG} {ms : List Nat} (f : FR ms σ τ) (h : dj ms [kR_unit] = true) (j : UNt σ) : UNt τ := by
  unfold UNt at *
  rw [FR_dj f h (c := kR_unit) (by decide)]
  exact j
/-- the rest's digits -/
def RD (r u : Int) : Prop := 0 ≤ r ∧ ((u = 100 ∧ r < 1000) ∨ (u = 10 ∧ r < 100) ∨ (u = 1 ∧ r < 10) ∨ (u = 0 ∧ r = 0))
def rl_ (u : Int) : Int := if u = 100 then 3 else if u = 10 then 2 else if u = 1 then 1 else 0
theorem RD_s {r u : Int} (h : RD r u) (h0 : 0 < r) : 1 ≤ u ∧ u ≤ 100 ∧ r < 1000 ∧ RD (r % u) (u / 10) ∧ rl_ u = rl_ (u / 10) + 1 ∧ 0 ≤ rl_ (u / 10) ∧ rl_ u ≤ 3 := by
  obtain ⟨h1, h | h | h | h⟩ := h
  · obtain ⟨a, b⟩ := h; subst a
    exact ⟨by omega, by omega, by omega, ⟨by omega, Or.inr (Or.inl ⟨by omega, by omega⟩)⟩, by decide, by decide, by decide⟩
  · obtain ⟨a, b⟩ := h; subst a
    exact ⟨by omega, by omega, by omega, ⟨by omega, Or.inr (Or.inr (Or.inl ⟨by omega, by omega⟩))⟩, by decide, by decide, by decide⟩
  · obtain ⟨a, b⟩ := h; subst a
    exact ⟨by omega, by omega, by omega, ⟨by omega, Or.inr (Or.inr (Or.inr ⟨by omega, by omega⟩))⟩, by decide, by decide, by decide⟩
  · omega
theorem RD_0 {σ : SG} {v : Int} (h : UNt σ) (v0 : 0 ≤ v) : RD (v % σ kR_unit 0) (σ kR_unit 0 / 10) ∧ rl_ (σ kR_unit 0 / 10) ≤ 3 ∧ 1 ≤ σ kR_unit 0 := by
  rcases h with h | h | h | h <;> rw [h]
  · exact ⟨⟨by omega, Or.inr (Or.inr (Or.inr ⟨by omega, by omega⟩))⟩, by decide, by decide⟩
  · exact ⟨⟨by omega, Or.inr (Or.inr (Or.inl ⟨by omega, by omega⟩))⟩, by decide, by decide⟩
  · exact ⟨⟨by omega, Or.inr (Or.inl ⟨by omega, by omega⟩)⟩, by decide, by decide⟩
  · exact ⟨⟨by omega, Or.inl ⟨by omega, by omega⟩⟩, by decide, by decide⟩
theorem rl_0 (u : Int) : 0 ≤ rl_ u := by unfold rl_; split <;> (try split) <;> (try split) <;> omega
/-- the words' letters -/
def wsp_ (j : Nat) : Bool := decide (w32 (sChr 10 (w32 j)) = 32)
def wlt_ (kind : Int) (j : Nat) : Bool := !wsp_ j && decide (1 + ((ct_ j wsp_ : Nat) : Int) = kind)
theorem wl10 : sLen 10 ≤ 120 ∧ ∀ kind : Nat, kind < 9 → ct_ (sLen 10).toNat (wlt_ kind) ≤ 18 := by decide +kernel
end COST
section COST2
theorem dv_b {x y : Int} (x0 : 0 ≤ x) (y0 : 0 < y) : 0 ≤ x / y ∧ x / y ≤ x := ⟨Int.ediv_nonneg x0 (Int.le_of_lt y0), Int.ediv_le_self _ x0⟩
theorem md_b {x y : Int} (y0 : 0 < y) : 0 ≤ x % y ∧ x % y < y := ⟨Int.emod_nonneg _ (by omega), Int.emod_lt_of_pos _ y0⟩
theorem ct_i (f : Nat → Bool) {k : Int} (h : 0 ≤ k) : ct_ (k + 1).toNat f = ct_ k.toNat f + (if f k.toNat = true then 1 else 0) := by
  rw [show (k + 1).toNat = k.toNat + 1 by omega]; rfl
theorem wl_i {k kind : Int} (h0 : 0 ≤ k) (h1 : k < 90) : (sChr 10 k = 32 → ct_ (k + 1).toNat wsp_ = ct_ k.toNat wsp_ + 1 ∧ ct_ (k + 1).toNat (wlt_ kind) = ct_ k.toNat (wlt_ kind)) ∧ (¬ sChr 10 k = 32 → ct_ (k + 1).toNat wsp_ = ct_ k.toNat wsp_ ∧ (1 + ((ct_ k.toNat wsp_ : Nat) : Int) = kind → ct_ (k + 1).toNat (wlt_ kind) = ct_ k.toNat (wlt_ kind) + 1) ∧ (¬ 1 + ((ct_ k.toNat wsp_ : Nat) : Int) = kind → ct_ (k + 1).toNat (wlt_ kind) = ct_ k.toNat (wlt_ kind))) := by
  have hs : wsp_ k.toNat = decide (sChr 10 k = 32) := by
    unfold wsp_
    rw [show ((k.toNat : Nat) : Int) = k by omega, w32_of (x := k) (by omega) (by omega), (ks_i h0 h1).1]
  have hl : wlt_ kind k.toNat = (!(wsp_ k.toNat) && decide (1 + ((ct_ k.toNat wsp_ : Nat) : Int) = kind)) := rfl
  rw [ct_i wsp_ h0, ct_i (wlt_ kind) h0, hl, hs]
  refine ⟨fun q => ?_, fun q => ?_⟩
  · rw [decide_eq_true q]; exact ⟨rfl, rfl⟩
  · rw [decide_eq_false q]
    refine ⟨rfl, fun z => ?_, fun z => ?_⟩
    · rw [decide_eq_true z]; rfl
    · rw [decide_eq_false z]; rfl
theorem wl18 {kind : Int} (h : 0 ≤ kind ∧ kind < 9) (k : Int) (h0 : 0 ≤ k) (h1 : k ≤ sLen 10) : ct_ k.toNat (wlt_ kind) ≤ 18 := by
  have a := wl10.2 kind.toNat (by omega)
  rw [show ((kind.toNat : Nat) : Int) = kind by omega] at a
  have b := ct_part (f := wlt_ kind) (j := k.toNat) (m := (sLen 10).toNat) (by omega)
  rw [b]
  refine Nat.le_trans (ct_le (fun j _ hj => ?_)) a
  rw [Bool.and_eq_true] at hj
  exact hj.2
/-- the most that an entry's body takes -/
def bC (pl : Int → Int) (p : Int) : Int := 18 + 4 * eL pl p + 33 * eP pl p
end COST2
