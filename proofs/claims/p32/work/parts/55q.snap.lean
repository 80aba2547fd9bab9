section SNQ
abbrev RLs : List Nat := [kR_corner, kR_corners, kR_outArea, kR_outFrom, kR_outMany, kR_outs]
/-- the rings told: each has its corners behind those of the one ahead -/
def OC (τ : SG) : Prop := ∀ s, 0 ≤ s → s < τ kR_outs 0 → 0 ≤ τ kR_outFrom s ∧ 0 ≤ τ kR_outMany s ∧ τ kR_outFrom s + τ kR_outMany s ≤ τ kR_corners 0 ∧ (τ kR_outMany s = 0 → τ kR_outArea s = 0)
theorem irm_in {x n : Int} (n0 : 0 < n) (n1 : n ≤ 100000) (x0 : 0 ≤ x) (x1 : x ≤ 1000000) : 0 ≤ q_irm x n ∧ q_irm x n < n := by
  have hw : w32 n = n := w32_of (by omega) (by omega)
  have hx : w32 x = x := w32_of (by omega) (by omega)
  obtain ⟨a, b, c⟩ := q_irm_bd x n (by omega)
  have := c (by omega)
  omega
theorem ct_part {f : Nat → Bool} {j : Nat} : ∀ {m : Nat}, j ≤ m → ct_ j f = ct_ m (fun i => decide (i < j) && f i)
  | 0, h => by have : j = 0 := by omega
               subst this; rfl
  | m + 1, h => by
    by_cases q : j = m + 1
    · subst q
      exact ct_cg (fun i hi => by rw [decide_eq_true hi, Bool.true_and])
    · have : decide (m < j) = false := decide_eq_false (by omega)
      show _ = ct_ m (fun i => decide (i < j) && f i) + (if (decide (m < j) && f m) = true then 1 else 0)
      rw [← ct_part (m := m) (by omega), this]; rfl
theorem ct_m (f : Nat → Bool) : ∀ m : Nat, ct_ m f ≤ m
  | 0 => Nat.le_refl _
  | m + 1 => by
    unfold ct_
    have := ct_m f m
    split <;> omega
theorem irm_c {x n : Int} (n0 : 0 < n) (n1 : n ≤ 100000) (x0 : 0 ≤ x) (x1 : x < 2 * n) : q_irm x n = if x < n then x else x - n := by
  unfold q_irm
  rw [w32_of (x := n) (by omega) (by omega), w32_of (x := x) (by omega) (by omega), Int.tmod_eq_emod_of_nonneg x0]
  split
  · rename_i h
    exact Int.emod_eq_of_lt x0 h
  · rename_i h
    exact ((Int.ediv_emod_unique n0 (a := x) (q := 1) (r := x - n)).mpr ⟨by omega, by omega, by omega⟩).2
/-- places of a round of n from f on -/
def cy_ (f n i : Int) : Int := if i < f then i + n else if f + n ≤ i then i - n else i
def wc_ (τ : SG) (f n a j : Int) : Int := τ kR_way (cy_ f n (a + j))
def wx_ (τ : SG) (f n a j : Int) : Int := τ kR_hotX (wc_ τ f n a j)
def wy_ (τ : SG) (f n a j : Int) : Int := τ kR_hotY (wc_ τ f n a j)
def ott_ (τ : SG) (f n a j : Int) : Int := oi_ (wx_ τ f n a (j - 1)) (wy_ τ f n a (j - 1)) (wx_ τ f n a j) (wy_ τ f n a j) (wx_ τ f n a (j + 1)) (wy_ τ f n a (j + 1))
def sz_ (τ : SG) (f n a : Int) (j : Nat) : Bool := decide (ott_ τ f n a j ≠ 0)
/-- twice the area of a round -/
def ar_ (X Y : Int → Int) : Nat → Int
  | 0 => 0
  | j + 1 => ar_ X Y j + (X j * Y (j + 1) - Y j * X (j + 1))
theorem par_ {u1 u2 v1 v2 w1 w2 : Int} (h1 : u1 * v2 - u2 * v1 = 0) (h2 : v1 * w2 - v2 * w1 = 0) (hv : v1 ≠ 0 ∨ v2 ≠ 0) : u1 * w2 - u2 * w1 = 0 := by
  rcases hv with h | h
  · have : v1 * (u1 * w2 - u2 * w1) = 0 := by grind
    rcases Int.mul_eq_zero.mp this with q | q
    · exact absurd q h
    · exact q
  · have : v2 * (u1 * w2 - u2 * w1) = 0 := by grind
    rcases Int.mul_eq_zero.mp this with q | q
    · exact absurd q h
    · exact q
theorem al_1 {xj yj xk yk xl yl : Int} (s : (xk - xj) * (yl - yj) - (yk - yj) * (xl - xj) = 0) : (xl - xk) * (yk - yj) - (yl - yk) * (xk - xj) = 0 := by grind
theorem al_2 {u1 u2 v1 v2 : Int} (s : u1 * v2 - u2 * v1 = 0) : v1 * u2 - v2 * u1 = 0 := by grind
theorem al_3 {xj yj xk yk x0 y0 d1 d2 : Int} (a : (xj - x0) * d2 - (yj - y0) * d1 = 0) (b : (xk - xj) * d2 - (yk - yj) * d1 = 0) : (xk - x0) * d2 - (yk - y0) * d1 = 0 := by grind
theorem al_4 {xj yj xk yk x0 y0 : Int} (p : (xj - x0) * (yk - yj) - (yj - y0) * (xk - xj) = 0) : x0 * (yj - y0) - y0 * (xj - x0) + (xj * yk - yj * xk) = x0 * (yk - y0) - y0 * (xk - x0) := by grind
theorem al_5 {xj yj x0 y0 d1 d2 : Int} (a : (x0 - xj) * d2 - (y0 - yj) * d1 = 0) : True := trivial
theorem ar_line {X Y : Int → Int} {n : Nat} (hs : ∀ j : Nat, 0 < j → j < n → oi_ (X ((j : Int) - 1)) (Y ((j : Int) - 1)) (X j) (Y j) (X (j + 1)) (Y (j + 1)) = 0) (hd : ∀ j : Nat, j < n → X j ≠ X (j + 1) ∨ Y j ≠ Y (j + 1)) : ∀ j : Nat, j < n → (X (j + 1) - X j) * (Y 1 - Y 0) - (Y (j + 1) - Y j) * (X 1 - X 0) = 0 ∧ (X j - X 0) * (Y 1 - Y 0) - (Y j - Y 0) * (X 1 - X 0) = 0 ∧ ar_ X Y j = X 0 * (Y j - Y 0) - Y 0 * (X j - X 0)
  | 0, h => by
    refine ⟨?_, ?_, ?_⟩
    · show (X (0 + 1) - X 0) * (Y 1 - Y 0) - (Y (0 + 1) - Y 0) * (X 1 - X 0) = 0
      rw [Int.zero_add, Int.mul_comm]; omega
    · show (X 0 - X 0) * (Y 1 - Y 0) - (Y 0 - Y 0) * (X 1 - X 0) = 0
      rw [Int.sub_self, Int.sub_self, Int.zero_mul, Int.zero_mul]; rfl
    · show (0 : Int) = X 0 * (Y 0 - Y 0) - Y 0 * (X 0 - X 0)
      rw [Int.sub_self, Int.sub_self, Int.mul_zero, Int.mul_zero]; rfl
  | j + 1, h => by
    obtain ⟨a, b, c⟩ := ar_line hs hd j (by omega)
    have s := hs (j + 1) (by omega) h
    have d := hd j (by omega)
    have d0 := hd 0 (by omega)
    have e1 : (((j + 1 : Nat) : Int) - 1) = j := by omega
    have e2 : ((j + 1 : Nat) : Int) = (j : Int) + 1 := by omega
    rw [e1, e2] at s
    rw [e2]
    unfold oi_ at s
    have dd : X 1 - X 0 ≠ 0 ∨ Y 1 - Y 0 ≠ 0 := by
      have d1 : X ((0 : Nat) : Int) ≠ X (((0 : Nat) : Int) + 1) ∨ Y ((0 : Nat) : Int) ≠ Y (((0 : Nat) : Int) + 1) := d0
      have z1 : (((0 : Nat) : Int) + 1) = 1 := rfl
      have z0 : ((0 : Nat) : Int) = 0 := rfl
      rw [z1, z0] at d1
      omega
    have vv : X ((j : Int) + 1) - X j ≠ 0 ∨ Y ((j : Int) + 1) - Y j ≠ 0 := by omega
    generalize ex1 : X (j : Int) = xj at *
    generalize ex2 : Y (j : Int) = yj at *
    generalize ex3 : X ((j : Int) + 1) = xk at *
    generalize ex4 : Y ((j : Int) + 1) = yk at *
    generalize X ((j : Int) + 1 + 1) = xl at *
    generalize Y ((j : Int) + 1 + 1) = yl at *
    have p1 : (xl - xk) * (Y 1 - Y 0) - (yl - yk) * (X 1 - X 0) = 0 := par_ (v1 := xk - xj) (v2 := yk - yj) (al_1 s) a vv
    have p2 : (xj - X 0) * (yk - yj) - (yj - Y 0) * (xk - xj) = 0 := par_ (v1 := X 1 - X 0) (v2 := Y 1 - Y 0) b (al_2 a) dd
    refine ⟨p1, al_3 b a, ?_⟩
    show ar_ X Y j + (X (j : Int) * Y ((j : Int) + 1) - Y (j : Int) * X ((j : Int) + 1)) = _
    rw [c, ex1, ex2, ex3, ex4]
    exact al_4 p2
theorem ar_flat {X Y : Int → Int} {n : Nat} (hn : 0 < n) (hc : X n = X 0 ∧ Y n = Y 0) (hs : ∀ j : Nat, 0 < j → j < n → oi_ (X ((j : Int) - 1)) (Y ((j : Int) - 1)) (X j) (Y j) (X (j + 1)) (Y (j + 1)) = 0) (hd : 1 < n → ∀ j : Nat, j < n → X j ≠ X (j + 1) ∨ Y j ≠ Y (j + 1)) : ar_ X Y n = 0 := by
  obtain ⟨m, rfl⟩ : ∃ m, n = m + 1 := ⟨n - 1, by omega⟩
  have e2 : ((m + 1 : Nat) : Int) = (m : Int) + 1 := by omega
  rw [e2] at hc
  show ar_ X Y m + (X m * Y (m + 1) - Y m * X (m + 1)) = 0
  rw [hc.1, hc.2]
  by_cases q : 1 < m + 1
  · have d0 := hd q 0 (by omega)
    have dd : X 1 - X 0 ≠ 0 ∨ Y 1 - Y 0 ≠ 0 := by
      have d1 : X ((0 : Nat) : Int) ≠ X (((0 : Nat) : Int) + 1) ∨ Y ((0 : Nat) : Int) ≠ Y (((0 : Nat) : Int) + 1) := d0
      have z1 : (((0 : Nat) : Int) + 1) = 1 := rfl
      have z0 : ((0 : Nat) : Int) = 0 := rfl
      rw [z1, z0] at d1
      omega
    obtain ⟨a, b, c⟩ := ar_line hs (hd q) m (by omega)
    rw [c]
    rw [hc.1, hc.2] at a
    have z := par_ (v1 := X 1 - X 0) (v2 := Y 1 - Y 0) (u1 := X m - X 0) (u2 := Y m - Y 0) (w1 := X 0 - X m) (w2 := Y 0 - Y m) b (al_2 a) dd
    have := al_4 (x0 := X 0) (y0 := Y 0) (xj := X m) (yj := Y m) (xk := X 0) (yk := Y 0) z
    rw [this, Int.sub_self, Int.sub_self, Int.mul_zero, Int.mul_zero]; rfl
  · have : m = 0 := by omega
    subst this
    show (0 : Int) + (X ((0 : Nat) : Int) * Y 0 - Y ((0 : Nat) : Int) * X 0) = 0
    have z0 : ((0 : Nat) : Int) = 0 := rfl
    rw [z0, Int.mul_comm]; omega
theorem v_isStraight {τ : SG} {a b c : Int} (hτ : II τ) (a0 : 0 ≤ a ∧ a ≤ 8191) (b0 : 0 ≤ b ∧ b ≤ 8191) (c0 : 0 ≤ c ∧ c ≤ 8191) : wp_ (fR_isStraight τ a b c) (fun v => v = true ↔ oi_ (τ kR_hotX a) (τ kR_hotY a) (τ kR_hotX b) (τ kR_hotY b) (τ kR_hotX c) (τ kR_hotY c) = 0) := by
  unfold fR_isStraight
  rw [w32_of (x := a) (by omega) (by omega), w32_of (x := b) (by omega) (by omega), w32_of (x := c) (by omega) (by omega)]
  refine wp_bd (P := fun v => v = true ↔ _) ?_ (fun v _ hv => wp_some hv)
  refine wp_rd (by omega) (by omega) (wp_rd (by omega) (by omega) (wp_rd (by omega) (by omega) (wp_rd (by omega) (by omega) (wp_rd (by omega) (by omega) (wp_rd (by omega) (by omega) ?_)))))
  obtain ⟨t1, t2, -, t3, -⟩ := turn_sg (ii_kR_hotX hτ a) (ii_kR_hotY hτ a) (ii_kR_hotX hτ b) (ii_kR_hotY hτ b) (ii_kR_hotX hτ c) (ii_kR_hotY hτ c)
  rw [w32_of (x := fR_turn (τ kR_hotX a) (τ kR_hotY a) (τ kR_hotX b) (τ kR_hotY b) (τ kR_hotX c) (τ kR_hotY c)) (by omega) (by omega)]
  exact wp_if (fun g => wp_some ⟨fun _ => t3.mp g, fun _ => rfl⟩) (fun g => wp_some ⟨fun z => (by cases z), fun z => absurd (t3.mpr z) g⟩)
/-- a ring told of the way from f on -/
def RGv (τ υ : SG) (f : Int) : Prop := ∃ a, f ≤ a ∧ a < τ kR_wayMany 0 ∧ (∀ k, f ≤ k → k < τ kR_wayMany 0 → τ kR_way a ≤ τ kR_way k) ∧ υ kR_outFrom (τ kR_outs 0) = τ kR_corners 0 ∧ υ kR_outMany (τ kR_outs 0) = (ct_ (τ kR_wayMany 0 - f).toNat (sz_ τ f (τ kR_wayMany 0 - f) a) : Nat) ∧ υ kR_corners 0 = τ kR_corners 0 + (ct_ (τ kR_wayMany 0 - f).toNat (sz_ τ f (τ kR_wayMany 0 - f) a) : Nat) ∧ (∀ j : Nat, j < (τ kR_wayMany 0 - f).toNat → sz_ τ f (τ kR_wayMany 0 - f) a j = true → υ kR_corner (τ kR_corners 0 + (ct_ j (sz_ τ f (τ kR_wayMany 0 - f) a) : Nat)) = wc_ τ f (τ kR_wayMany 0 - f) a j) ∧ υ kR_outArea (τ kR_outs 0) = ar_ (wx_ τ f (τ kR_wayMany 0 - f) a) (wy_ τ f (τ kR_wayMany 0 - f) a) (τ kR_wayMany 0 - f).toNat ∧ (∀ i, i < τ kR_corners 0 → υ kR_corner i = τ kR_corner i) ∧ ∀ s, s ≠ τ kR_outs 0 → υ kR_outFrom s = τ kR_outFrom s ∧ υ kR_outMany s = τ kR_outMany s ∧ υ kR_outArea s = τ kR_outArea s
/-- no corners: no area -/
theorem RGv_0 {τ : SG} {f a : Int} (ho : HO τ) (f0 : f ≤ a) (f1 : a < τ kR_wayMany 0) (hw : ∀ i j, f ≤ i → i < τ kR_wayMany 0 → f ≤ j → j < τ kR_wayMany 0 → τ kR_way i = τ kR_way j → i = j) (hr : ∀ i, f ≤ i → i < τ kR_wayMany 0 → 0 ≤ τ kR_way i ∧ τ kR_way i < τ kR_hots 0) (h : ct_ (τ kR_wayMany 0 - f).toNat (sz_ τ f (τ kR_wayMany 0 - f) a) = 0) : ar_ (wx_ τ f (τ kR_wayMany 0 - f) a) (wy_ τ f (τ kR_wayMany 0 - f) a) (τ kR_wayMany 0 - f).toNat = 0 := by
  generalize hN : τ kR_wayMany 0 - f = N at *
  have cyb : ∀ j : Int, -1 ≤ j → j ≤ N → f ≤ cy_ f N (a + j) ∧ cy_ f N (a + j) < τ kR_wayMany 0 := by
    intro j j0 j1; unfold cy_; split
    · omega
    · split <;> omega
  refine ar_flat (by omega) ?_ ?_ ?_
  · have e : ((N.toNat : Nat) : Int) = N := by omega
    rw [e]
    have : wc_ τ f N a N = wc_ τ f N a 0 := by
      unfold wc_ cy_
      rw [if_neg (by omega), if_pos (by omega), if_neg (by omega), if_neg (by omega)]
      congr 1; omega
    unfold wx_ wy_
    rw [this]; exact ⟨rfl, rfl⟩
  · intro j j0 j1
    by_cases q : sz_ τ f N a j = true
    · have := ct_lt (f := fun _ => false) (g := sz_ τ f N a) (m := N.toNat) (z := j) (fun _ _ q => by cases q) j1 rfl q
      omega
    · unfold sz_ ott_ at q
      have q2 := of_decide_eq_false (Bool.eq_false_iff.mpr q)
      exact Decidable.of_not_not q2
  · intro n1 j j1
    have b1 := cyb j (by omega) (by omega)
    have b2 := cyb (j + 1) (by omega) (by omega)
    have ne : cy_ f N (a + j) ≠ cy_ f N (a + (j + 1)) := by
      unfold cy_
      split <;> split <;> (try split) <;> (try split) <;> omega
    have w1 := hr _ b1.1 b1.2
    have w2 := hr _ b2.1 b2.2
    exact HO_ne ho w1.1 w1.2 w2.1 w2.2 (fun e => ne (hw _ _ b1.1 b1.2 b2.1 b2.2 e))
theorem v_ring {τ : SG} {from_ : Int} (hτ : II τ) (f0 : 0 ≤ from_) (f1 : from_ < τ kR_wayMany 0) (ho : τ kR_outs 0 ≤ 8191) (hc : τ kR_corners 0 + (τ kR_wayMany 0 - from_) ≤ 32000) (oc : OC τ) (ho_ : HO τ) (hw_ : ∀ i j, from_ ≤ i → i < τ kR_wayMany 0 → from_ ≤ j → j < τ kR_wayMany 0 → τ kR_way i = τ kR_way j → i = j) (hr_ : ∀ i, from_ ≤ i → i < τ kR_wayMany 0 → 0 ≤ τ kR_way i ∧ τ kR_way i < τ kR_hots 0) : wp_ (fR_ring τ from_) (fun υ => RGv τ υ from_ ∧ II υ ∧ FR [kR_corner, kR_corners, kR_outArea, kR_outFrom, kR_outMany, kR_outs] τ υ ∧ υ kR_outs 0 = τ kR_outs 0 + 1 ∧ τ kR_corners 0 ≤ υ kR_corners 0 ∧ υ kR_corners 0 ≤ τ kR_corners 0 + (τ kR_wayMany 0 - from_) ∧ OC υ) := by
  unfold fR_ring
  have bw := ii_kR_wayMany hτ 0
  have bo := ii_kR_outs hτ 0
  have bc := ii_kR_corners hτ 0
  have wv : ∀ j, 0 ≤ τ kR_way j ∧ τ kR_way j ≤ 8191 := ii_kR_way hτ
  generalize hM : τ kR_wayMany 0 = M at *
  generalize hO : τ kR_outs 0 = O at *
  generalize hC : τ kR_corners 0 = C at *
  refine wp_bd (P := fun s => from_ ≤ s.1 ∧ s.1 < M ∧ ∀ k, from_ ≤ k → k < M → τ kR_way s.1 ≤ τ kR_way k) ?_ ?_
  · refine wp_whl (fun s => (from_ ≤ s.1 ∧ s.1 < M) ∧ from_ ≤ s.2 ∧ s.2 ≤ M ∧ ∀ k, from_ ≤ k → k < s.2 → τ kR_way s.1 ≤ τ kR_way k) (fun s => (M - s.2).toNat) ⟨⟨Int.le_refl _, f1⟩, Int.le_refl _, by dsimp only; omega, fun k a b => by dsimp only at b; omega⟩ ?_
    rintro ⟨first, k⟩ ⟨⟨a0, a1⟩, k0, k1, kl⟩
    dsimp only at a0 a1 k0 k1 kl ⊢
    have wvf := wv first
    have wvk := wv k
    rw [w32_of (x := k) (by omega) (by omega), w32_of (x := M) (by omega) (by omega), w32_of (x := first) (by omega) (by omega)]
    refine wp_if (fun g => ?_) (fun g => wp_ir ⟨a0, a1, fun i i0 i1 => kl i i0 (by omega)⟩)
    refine wp_bd (P := fun v => (from_ ≤ v ∧ v < M) ∧ ∀ i, from_ ≤ i → i < k + 1 → τ kR_way v ≤ τ kR_way i) ?_ (fun v _ hv => wp_il ⟨⟨hv.1, by dsimp only; omega, by dsimp only; omega, hv.2⟩, by dsimp only; omega⟩)
    refine wp_rd (by omega) (by omega) (wp_rd (by omega) (by omega) ?_)
    rw [w32_of (x := τ kR_way k) (by omega) (by omega), w32_of (x := τ kR_way first) (by omega) (by omega)]
    refine wp_if (fun gl => wp_some ⟨⟨k0, g⟩, fun i i0 i1 => ?_⟩) (fun gl => wp_some ⟨⟨a0, a1⟩, fun i i0 i1 => ?_⟩)
    · by_cases q : i = k
      · rw [q]; exact Int.le_refl _
      · have := kl i i0 (by omega); omega
    · by_cases q : i = k
      · rw [q]; omega
      · exact kl i i0 (by omega)
  rintro ⟨first, k⟩ - ⟨a0, a1, kl⟩
  dsimp only at a0 a1 kl ⊢
  rw [w32_of (x := O) (by omega) (by omega)]
  refine wp_waI hτ b_kR_outFrom (by omega) (by omega) (by omega) (fun σ1 h1 e1 => ?_)
  have r1 : FR RLs τ σ1 := FR_le (FR_sg e1) (by decide)
  have g1 : σ1 kR_outFrom O = C := sg_val e1
  have n1 : σ1 kR_corners 0 = C := by rw [e1, sg_nc (by decide)]; exact hC
  have p1 : σ1 kR_outs 0 = O := by rw [e1, sg_nc (by decide)]; exact hO
  have wy1 : ∀ j, σ1 kR_way j = τ kR_way j := fun j => by rw [e1, sg_nc (by decide)]
  have hx1 : ∀ j, σ1 kR_hotX j = τ kR_hotX j := fun j => by rw [e1, sg_nc (by decide)]
  have hy1 : ∀ j, σ1 kR_hotY j = τ kR_hotY j := fun j => by rw [e1, sg_nc (by decide)]
  have cc1 : ∀ j, σ1 kR_corner j = τ kR_corner j := fun j => by rw [e1, sg_nc (by decide)]
  generalize hN : M - from_ = N at *
  rw [w32_of (x := N) (by omega) (by omega)]
  refine wp_bd (P := fun s => II s.2.2 ∧ FR [kR_corner, kR_corners] σ1 s.2.2 ∧ s.2.2 kR_corners 0 = C + (ct_ N.toNat (sz_ τ from_ N first) : Nat) ∧ s.1 = ar_ (wx_ τ from_ N first) (wy_ τ from_ N first) N.toNat ∧ (∀ j : Nat, j < N.toNat → sz_ τ from_ N first j = true → s.2.2 kR_corner (C + (ct_ j (sz_ τ from_ N first) : Nat)) = wc_ τ from_ N first j) ∧ ∀ i, i < C → s.2.2 kR_corner i = τ kR_corner i) ?_ ?_
  · refine wp_whl (fun s => 0 ≤ s.2.1 ∧ s.2.1 ≤ N ∧ II s.2.2 ∧ FR [kR_corner, kR_corners] σ1 s.2.2 ∧ s.2.2 kR_corners 0 = C + (ct_ s.2.1.toNat (sz_ τ from_ N first) : Nat) ∧ s.1 = ar_ (wx_ τ from_ N first) (wy_ τ from_ N first) s.2.1.toNat ∧ (∀ j : Nat, j < s.2.1.toNat → sz_ τ from_ N first j = true → s.2.2 kR_corner (C + (ct_ j (sz_ τ from_ N first) : Nat)) = wc_ τ from_ N first j) ∧ ∀ i, i < C → s.2.2 kR_corner i = τ kR_corner i) (fun s => (N - s.2.1).toNat) ⟨Int.le_refl 0, by dsimp only; omega, h1, FR_refl _ _, by dsimp only; rw [n1]; show C = C + ((0 : Nat) : Int); omega, rfl, fun j j0 => absurd j0 (Nat.not_lt_zero j), fun i _ => cc1 i⟩ ?_
    rintro ⟨area, k, υ⟩ ⟨k0, k1, hυ, fυ, c0, c1, c2, c3⟩
    dsimp only at k0 k1 hυ fυ c0 c1 c2 c3 ⊢
    have cm := ct_m (sz_ τ from_ N first) k.toNat
    have nk : (k + 1).toNat = k.toNat + 1 := by omega
    have kk : ((k.toNat : Nat) : Int) = k := by omega
    have wu : ∀ j, 0 ≤ υ kR_way j ∧ υ kR_way j ≤ 8191 := ii_kR_way hυ
    rw [w32_of (x := k) (by omega) (by omega)]
    refine wp_if (fun g => ?_) (fun g => wp_ir (by
      have e : k = N := by omega
      subst e
      exact ⟨hυ, fυ, c0, c1, c2, c3⟩))
    refine wp_ck (by omega) ?_
    have i1 := irm_in (n := N) (x := first - from_ + k) (by omega) (by omega) (by omega) (by omega)
    refine wp_lt (fun x ex => ?_)
    have bx : from_ ≤ x ∧ x < M := by omega
    refine wp_ck (by omega) ?_
    have i2 := irm_in (n := N) (x := x - from_ + N - 1) (by omega) (by omega) (by omega) (by omega)
    refine wp_lt (fun y ey => ?_)
    have by_ : from_ ≤ y ∧ y < M := by omega
    refine wp_ck (by omega) ?_
    have i3 := irm_in (n := N) (x := x - from_ + 1) (by omega) (by omega) (by omega) (by omega)
    refine wp_lt (fun z ez => ?_)
    have bz_ : from_ ≤ z ∧ z < M := by omega
    have xc : x = cy_ from_ N (first + k) := by
      rw [ex, irm_c (by omega) (by omega) (by omega) (by omega)]
      unfold cy_; split <;> split <;> (try split) <;> omega
    have yc : y = cy_ from_ N (first + (k - 1)) := by
      rw [ey, irm_c (by omega) (by omega) (by omega) (by omega), xc]
      unfold cy_; split <;> split <;> (try split) <;> (try split) <;> omega
    have zc : z = cy_ from_ N (first + (k + 1)) := by
      rw [ez, irm_c (by omega) (by omega) (by omega) (by omega), xc]
      unfold cy_; split <;> split <;> (try split) <;> (try split) <;> omega
    have wwe : ∀ j, υ kR_way j = τ kR_way j := fun j => by rw [FR_at fυ (by decide)]; exact wy1 j
    have wxx : ∀ j, υ kR_hotX j = τ kR_hotX j := fun j => by rw [FR_at fυ (by decide)]; exact hx1 j
    have wyy : ∀ j, υ kR_hotY j = τ kR_hotY j := fun j => by rw [FR_at fυ (by decide)]; exact hy1 j
    have x9 : υ kR_way x = wc_ τ from_ N first k := by rw [wwe, xc]; rfl
    have y9 : υ kR_way y = wc_ τ from_ N first (k - 1) := by rw [wwe, yc]; rfl
    have z9 : υ kR_way z = wc_ τ from_ N first (k + 1) := by rw [wwe, zc]; rfl
    have w1 := wu x
    have w2 := wu y
    have w3 := wu z
    rw [w32_of (x := x) (by omega) (by omega), w32_of (x := y) (by omega) (by omega), w32_of (x := z) (by omega) (by omega)]
    refine wp_rd (by omega) (by omega) ?_
    rw [w32_of (x := υ kR_way x) (by omega) (by omega)]
    refine wp_rd (by omega) (by omega) (wp_rd (by omega) (by omega) ?_)
    rw [w32_of (x := υ kR_way x) (by omega) (by omega)]
    refine wp_rd (by omega) (by omega) (wp_rd (by omega) (by omega) ?_)
    rw [w32_of (x := υ kR_way z) (by omega) (by omega)]
    refine wp_rd (by omega) (by omega) (wp_rd (by omega) (by omega) ?_)
    rw [w32_of (x := υ kR_way z) (by omega) (by omega)]
    refine wp_rd (by omega) (by omega) (wp_rd (by omega) (by omega) (wp_rd (by omega) (by omega) (wp_rd (by omega) (by omega) ?_)))
    refine wp_bd (v_isStraight hυ w2 w1 w3) ?_
    rintro b - hb
    rw [x9, y9, z9, wxx, wxx, wxx, wyy, wyy, wyy] at hb
    have sz : sz_ τ from_ N first k.toNat = decide (ott_ τ from_ N first k ≠ 0) := by unfold sz_; rw [kk]
    have arn : area + fR_cross (υ kR_hotX (υ kR_way x)) (υ kR_hotY (υ kR_way x)) (υ kR_hotX (υ kR_way z)) (υ kR_hotY (υ kR_way z)) = ar_ (wx_ τ from_ N first) (wy_ τ from_ N first) (k.toNat + 1) := by
      show _ = ar_ (wx_ τ from_ N first) (wy_ τ from_ N first) k.toNat + (wx_ τ from_ N first k.toNat * wy_ τ from_ N first (k.toNat + 1) - wy_ τ from_ N first k.toNat * wx_ τ from_ N first (k.toNat + 1))
      rw [kk, ← c1, x9, z9, wxx, wxx, wyy, wyy]; rfl
    refine wp_if (fun gb => ?_) (fun gb => ?_)
    · have s0 : sz_ τ from_ N first k.toNat = false := by rw [sz]; exact decide_eq_false (fun q => q (hb.mp gb))
      refine wp_il ⟨⟨by dsimp only; omega, by dsimp only; omega, hυ, fυ, ?_, ?_, fun j j1 js => ?_, c3⟩, by dsimp only; omega⟩
      · dsimp only
        rw [nk]
        show _ = C + ((ct_ k.toNat (sz_ τ from_ N first) + (if sz_ τ from_ N first k.toNat = true then 1 else 0) : Nat) : Int)
        rw [s0]; exact c0
      · dsimp only; rw [nk]; exact arn
      · dsimp only at j1 ⊢
        rw [nk] at j1
        by_cases q : j = k.toNat
        · rw [q, s0] at js; cases js
        · exact c2 j (by omega) js
    have s1 : sz_ τ from_ N first k.toNat = true := by rw [sz]; exact decide_eq_true (fun q => gb (hb.mpr q))
    refine wp_rd (by omega) (by omega) ?_
    have bc' := ii_kR_corners hυ 0
    rw [c0, w32_of (x := C + (ct_ k.toNat (sz_ τ from_ N first) : Nat)) (by omega) (by omega)]
    refine wp_waI hυ b_kR_corner (by omega) (by omega) w1 (fun σ2 h2 e2 => ?_)
    have d2 : σ2 kR_corners 0 = C + (ct_ k.toNat (sz_ τ from_ N first) : Nat) := by rw [e2, sg_nc (by decide)]; exact c0
    rw [d2]
    refine wp_wfI h2 b_kR_corners (by omega) (fun σ3 h3 e3 => ?_)
    have d3 : σ3 kR_corners 0 = C + (ct_ k.toNat (sz_ τ from_ N first) : Nat) + 1 := sg_val e3
    have o3 : ∀ i, σ3 kR_corner i = if i = C + (ct_ k.toNat (sz_ τ from_ N first) : Nat) then υ kR_way x else υ kR_corner i := by
      intro i
      rw [e3, sg_nc (by decide), e2]
      by_cases q : i = C + (ct_ k.toNat (sz_ τ from_ N first) : Nat)
      · rw [if_pos q, q, sg_at]
      · rw [if_neg q, sg_ni q]
    refine wp_il ⟨⟨by dsimp only; omega, by dsimp only; omega, h3, FR_tr (FR_tr fυ (FR_sg e2) (by decide) (by decide) : FR [kR_corner, kR_corners] σ1 σ2) (FR_sg e3) (by decide) (by decide), ?_, ?_, fun j j1 js => ?_, fun i i1 => ?_⟩, by dsimp only; omega⟩
    · dsimp only
      rw [nk, d3]
      show _ = C + ((ct_ k.toNat (sz_ τ from_ N first) + (if sz_ τ from_ N first k.toNat = true then 1 else 0) : Nat) : Int)
      rw [if_pos s1]; omega
    · dsimp only; rw [nk]; exact arn
    · dsimp only at j1 ⊢
      rw [nk] at j1
      by_cases q : j = k.toNat
      · rw [q, o3, if_pos rfl, kk]; exact x9
      · have lt := ct_lt (f := fun i => decide (i < j) && sz_ τ from_ N first i) (g := sz_ τ from_ N first) (m := k.toNat) (z := j) (fun i _ h => (by simp at h; exact h.2)) (by omega) (by simp) js
        have ce : ct_ j (sz_ τ from_ N first) = ct_ k.toNat (fun i => decide (i < j) && sz_ τ from_ N first i) := ct_part (by omega)
        rw [o3, if_neg (by omega)]
        exact c2 j (by omega) js
    · dsimp only
      rw [o3, if_neg (by omega)]; exact c3 i i1
  rintro ⟨area, k, υ⟩ - ⟨hυ, fυ, c0, c1, c2, c3⟩
  dsimp only at hυ fυ c0 c1 c2 c3 ⊢
  have cm := ct_m (sz_ τ from_ N first) N.toNat
  have rυ : FR RLs τ υ := FR_tr r1 fυ (by decide) (by decide)
  have o2 : υ kR_outs 0 = O := by rw [FR_at fυ (by decide) 0]; exact p1
  have g2 : υ kR_outFrom O = C := by rw [FR_at fυ (by decide) O]; exact g1
  rw [o2, w32_of (x := O) (by omega) (by omega)]
  refine wp_rd (by omega) (by omega) ?_
  rw [g2]
  refine wp_waI hυ b_kR_outMany (by omega) (by omega) (by omega) (fun σ4 h4 e4 => ?_)
  have o4 : σ4 kR_outs 0 = O := by rw [e4, sg_nc (by decide)]; exact o2
  rw [o4, w32_of (x := O) (by omega) (by omega)]
  refine wp_waN h4 (by decide +kernel) (by omega) (by omega) (fun σ5 h5 e5 => ?_)
  have o5 : σ5 kR_outs 0 = O := by rw [e5, sg_nc (by decide)]; exact o4
  rw [o5]
  refine wp_wfI h5 b_kR_outs (by omega) (fun σ6 h6 e6 => wp_some ?_)
  have o6 : σ6 kR_outs 0 = O + 1 := sg_val e6
  have c6 : σ6 kR_corners 0 = υ kR_corners 0 := by rw [e6, sg_nc (by decide), e5, sg_nc (by decide), e4, sg_nc (by decide)]
  have u1 : ∀ s, σ6 kR_outFrom s = υ kR_outFrom s := fun s => by rw [e6, sg_nc (by decide), e5, sg_nc (by decide), e4, sg_nc (by decide)]
  have u2 : ∀ s, σ6 kR_outMany s = if s = O then υ kR_corners 0 - C else υ kR_outMany s := by
    intro s
    rw [e6, sg_nc (by decide), e5, sg_nc (by decide), e4]
    by_cases q : s = O
    · rw [if_pos q, q, sg_at]
    · rw [if_neg q, sg_ni q]
  have u3 : ∀ s, σ6 kR_outArea s = if s = O then area else υ kR_outArea s := by
    intro s
    rw [e6, sg_nc (by decide), e5]
    by_cases q : s = O
    · rw [if_pos q, q, sg_at]
    · rw [if_neg q, sg_ni q, e4, sg_nc (by decide)]
  have u4 : ∀ j, σ6 kR_corner j = υ kR_corner j := fun j => by rw [e6, sg_nc (by decide), e5, sg_nc (by decide), e4, sg_nc (by decide)]
  have z1 : ∀ s, s ≠ O → υ kR_outFrom s = τ kR_outFrom s := fun s q => by rw [FR_at fυ (by decide) s, e1, sg_ni q]
  have z2 : ∀ s, υ kR_outMany s = τ kR_outMany s := fun s => FR_at (FR_tr (FR_sg e1) fυ (by decide) (by decide) : FR [kR_outFrom, kR_corner, kR_corners] τ υ) (by decide) s
  have z3 : ∀ s, υ kR_outArea s = τ kR_outArea s := fun s => FR_at (FR_tr (FR_sg e1) fυ (by decide) (by decide) : FR [kR_outFrom, kR_corner, kR_corners] τ υ) (by decide) s
  have rg : RGv τ σ6 from_ := by
    unfold RGv
    rw [hM, hO, hC, hN]
    refine ⟨first, a0, a1, kl, by rw [u1, g2], by rw [u2, if_pos rfl, c0]; omega, by rw [c6, c0], fun j j0 js => by rw [u4]; exact c2 j j0 js, by rw [u3, if_pos rfl]; exact c1, fun i hi => by rw [u4]; exact c3 i hi, fun s hs => ⟨by rw [u1]; exact z1 s hs, by rw [u2, if_neg hs]; exact z2 s, by rw [u3, if_neg hs]; exact z3 s⟩⟩
  refine ⟨rg, h6, FR_tr (FR_tr (FR_tr rυ (FR_sg e4) (by decide) (by decide) : FR RLs τ σ4) (FR_sg e5) (by decide) (by decide) : FR RLs τ σ5) (FR_sg e6) (by decide) (by decide), o6, by omega, by omega, fun s s0 s1 => ?_⟩
  rw [o6] at s1
  rw [u1, u2, u3, c6]
  by_cases q : s = O
  · rw [if_pos q, if_pos q, q, g2]
    refine ⟨by omega, by omega, by omega, fun z => ?_⟩
    have h0 : ct_ N.toNat (sz_ τ from_ N first) = 0 := by omega
    rw [c1]
    have := RGv_0 (τ := τ) (f := from_) (a := first) ho_ a0 (by rw [hM]; exact a1) (by rw [hM]; exact hw_) (by rw [hM]; exact hr_)
    rw [hM, hN] at this
    exact this h0
  · rw [if_neg q, if_neg q, z1 s q, z2, z3]
    obtain ⟨t1, t2, t3, t4⟩ := oc s s0 (by omega)
    exact ⟨t1, t2, by omega, t4⟩
end SNQ
