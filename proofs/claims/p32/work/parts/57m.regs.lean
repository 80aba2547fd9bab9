section REGS
theorem RG_f {σ τ : SG} {ms : List Nat} {r v L : Int} (f : FR ms σ τ) (h : dj ms [kR_limbs, kR_sign, kR_w] = true) (g : RG σ r v L) : RG τ r v L := by
  unfold RG NR RV at *
  rw [FR_dj f h (c := kR_limbs) (by decide), FR_dj f h (c := kR_sign) (by decide), FR_dj f h (c := kR_w) (by decide)]
  exact g
theorem ml_b {a b M N : Int} (hM : 0 ≤ M) (hN : 0 ≤ N) (ha : -M ≤ a ∧ a ≤ M) (hb : -N ≤ b ∧ b ≤ N) : -(M * N) ≤ a * b ∧ a * b ≤ M * N := by
  have h1 := Int.mul_nonneg (show 0 ≤ M - a by omega) (show 0 ≤ N - b by omega)
  have h2 := Int.mul_nonneg (show 0 ≤ M + a by omega) (show 0 ≤ N + b by omega)
  have h3 := Int.mul_nonneg (show 0 ≤ M - a by omega) (show 0 ≤ N + b by omega)
  have h4 := Int.mul_nonneg (show 0 ≤ M + a by omega) (show 0 ≤ N - b by omega)
  rw [Int.sub_mul, Int.mul_sub, Int.mul_sub] at h1
  rw [Int.add_mul, Int.mul_add, Int.mul_add] at h2
  rw [Int.sub_mul, Int.mul_add, Int.mul_add] at h3
  rw [Int.add_mul, Int.mul_sub, Int.mul_sub] at h4
  omega
theorem sqs_b {a b : Int} (ha : -2000000000 ≤ a ∧ a ≤ 2000000000) (hb : -2000000000 ≤ b ∧ b ≤ 2000000000) : 0 ≤ a * a + b * b ∧ a * a + b * b ≤ 8000000000000000000 := by
  have h1 := ml_b (M := 2000000000) (N := 2000000000) (by decide) (by decide) ha ha
  have h2 := ml_b (M := 2000000000) (N := 2000000000) (by decide) (by decide) hb hb
  have h3 : 0 ≤ a * a := by rcases Int.le_total 0 a with h | h <;> first | exact Int.mul_nonneg h h | exact Int.mul_nonneg_of_nonpos_of_nonpos h h
  have h4 : 0 ≤ b * b := by rcases Int.le_total 0 b with h | h <;> first | exact Int.mul_nonneg h h | exact Int.mul_nonneg_of_nonpos_of_nonpos h h
  omega
theorem sq1_b {a : Int} (ha : 0 ≤ a ∧ a ≤ 1000000000) : 0 ≤ a * a ∧ a * a ≤ 1000000000000000000 := by
  have h1 := ml_b (M := 1000000000) (N := 1000000000) (by decide) (by decide) (show -1000000000 ≤ a ∧ a ≤ 1000000000 by omega) (show -1000000000 ≤ a ∧ a ≤ 1000000000 by omega)
  exact ⟨Int.mul_nonneg ha.1 ha.1, by omega⟩
theorem crR_b {a b c d : Int} (ha : -2000000000 ≤ a ∧ a ≤ 2000000000) (hb : -2000000000 ≤ b ∧ b ≤ 2000000000) (hc : -2000000000 ≤ c ∧ c ≤ 2000000000) (hd : -2000000000 ≤ d ∧ d ≤ 2000000000) : -8000000000000000000 ≤ fR_cross a b c d ∧ fR_cross a b c d ≤ 8000000000000000000 := by
  have h1 := ml_b (M := 2000000000) (N := 2000000000) (by decide) (by decide) ha hd
  have h2 := ml_b (M := 2000000000) (N := 2000000000) (by decide) (by decide) hb hc
  unfold fR_cross
  omega
theorem q_idv2048 {x : Int} (h0 : 0 ≤ x) (h1 : x ≤ 2147483647) : q_idv x 2048 = x / 2048 := by
  unfold q_idv
  rw [w32_of (x := x) (by omega) (by omega), w32_of (x := 2048) (by decide) (by decide)]
  exact Int.tdiv_eq_ediv_of_nonneg h0
/-- spans that wait -/
def sp_ (σ : SG) (n : Int) : Int := su_ (fun i => 2 * (σ kR_spanTo i - σ kR_spanFrom i) - 1) 0 n.toNat
theorem sp_s {σ : SG} {n : Int} (h : 0 ≤ n) : sp_ σ (n + 1) = sp_ σ n + (2 * (σ kR_spanTo n - σ kR_spanFrom n) - 1) := by
  unfold sp_; rw [su_i h, Int.zero_add]
theorem sp_cg {σ τ : SG} {n : Int} (h : ∀ i, 0 ≤ i → i < n → σ kR_spanTo i = τ kR_spanTo i ∧ σ kR_spanFrom i = τ kR_spanFrom i) : sp_ σ n = sp_ τ n := by
  unfold sp_
  refine su_cg (fun i a b => ?_)
  obtain ⟨h1, h2⟩ := h i a (by omega)
  show 2 * (σ kR_spanTo i - σ kR_spanFrom i) - 1 = 2 * (τ kR_spanTo i - τ kR_spanFrom i) - 1
  rw [h1, h2]
theorem sp_nn {σ : SG} {n : Int} (h : ∀ i, 0 ≤ i → i < n → σ kR_spanFrom i < σ kR_spanTo i) : 0 ≤ sp_ σ n := by
  unfold sp_
  refine su_nn (fun i a b => ?_)
  have := h i a (by omega)
  show 0 ≤ 2 * (σ kR_spanTo i - σ kR_spanFrom i) - 1
  omega
end REGS
