section SNQ
theorem ldv_nn {x y : Int} (h0 : 0 ≤ x) (h1 : x < 9223372036854775808) (y0 : 0 < y) (y1 : y < 9223372036854775808) : q_ldv x y = x / y ∧ q_lrm x y = x % y := by
  unfold q_ldv q_lrm
  rw [w64_of (x := x) (by omega) h1, w64_of (x := y) (by omega) y1]
  exact ⟨Int.tdiv_eq_ediv_of_nonneg h0, Int.tmod_eq_emod_of_nonneg h0⟩
/-- the nearest whole number to a place on a way -/
theorem v_pixelAt {start_0 way_0 share_0 whole_0 : Int} (hs : rB start_0) (hw : rB way_0) (h0 : 0 ≤ share_0) (h1 : share_0 ≤ whole_0) (w0 : 0 < whole_0) (w1 : whole_0 ≤ 3000000000000000000) : wp_ (fN_pixelAt start_0 way_0 share_0 whole_0) (fun r => (2 * r - 1) * whole_0 ≤ 2 * (start_0 * whole_0 + way_0 * share_0) ∧ 2 * (start_0 * whole_0 + way_0 * share_0) < (2 * r + 1) * whole_0) := by
  unfold fN_pixelAt
  obtain ⟨s0, s1⟩ := hs
  obtain ⟨y0, y1⟩ := hw
  have ww : w64 whole_0 = whole_0 := w64_of (by omega) (by omega)
  have wy : w32 way_0 = way_0 := w32_of (by omega) (by omega)
  have ws : w64 share_0 = share_0 := w64_of (by omega) (by omega)
  have wst : w32 start_0 = start_0 := w32_of (by omega) (by omega)
  rw [ww, wy, ws, wst]
  refine wp_if (fun h => absurd h (by omega)) (fun _ => ?_)
  have ha := q_abi_bd way_0
  rw [wy] at ha
  have bs : 0 ≤ q_abi way_0 ∧ q_abi way_0 ≤ 1000000000 := by omega
  rw [w32_of (x := q_abi way_0) (by omega) (by omega)]
  generalize hsz : q_abi way_0 = size at *
  refine wp_bd (P := fun x => 0 ≤ x.1 ∧ x.1 ≤ size ∧ 0 ≤ x.2 ∧ x.2 < whole_0 ∧ x.1 * whole_0 + x.2 = size * share_0) ?_ ?_
  · have fin : ∀ q r : Int, 0 ≤ q → 0 ≤ r → r < whole_0 → q * whole_0 + r = size * share_0 → q ≤ size := fun q r q0 r0 r1 he => by
      rcases Int.lt_or_le size q with h | h
      · exfalso
        have m1 := Int.mul_le_mul_of_nonneg_right (show size + 1 ≤ q by omega) (Int.le_of_lt w0)
        have m2 := Int.mul_le_mul_of_nonneg_left h1 bs.1
        rw [Int.add_mul, Int.one_mul] at m1
        omega
      · exact h
    refine wp_if (fun h => ?_) (fun h => ?_)
    · have m := ml_b (M := 1000000000) (N := 2147483647) (a := size) (b := share_0) (by decide) (by decide) (by omega) (by omega)
      have mn := Int.mul_nonneg bs.1 h0
      obtain ⟨e1, e2⟩ := ldv_nn (x := size * share_0) (y := whole_0) mn (by omega) w0 (by omega)
      refine wp_ck (by omega) (wp_ck (by omega) (wp_some ?_))
      rw [e1, e2]
      have d0 := Int.ediv_nonneg mn (Int.le_of_lt w0)
      have r0 := Int.emod_nonneg (size * share_0) (show whole_0 ≠ 0 by omega)
      have r1 := Int.emod_lt_of_pos (size * share_0) w0
      have he : size * share_0 / whole_0 * whole_0 + size * share_0 % whole_0 = size * share_0 := Int.ediv_mul_add_emod _ _
      exact ⟨d0, fin _ _ d0 r0 r1 he, r0, r1, he⟩
    · refine wp_bd (P := fun x => 0 ≤ x.1 ∧ 0 ≤ x.2.1 ∧ x.2.1 < whole_0 ∧ x.1 * whole_0 + x.2.1 = size * share_0) ?_ (fun x _ hx => wp_some ⟨hx.1, fin _ _ hx.1 hx.2.1 hx.2.2.1 hx.2.2.2, hx.2.1, hx.2.2.1, hx.2.2.2⟩)
      refine wp_whl (fun x => -1 ≤ x.2.2 ∧ x.2.2 ≤ 30 ∧ 0 ≤ x.1 ∧ 0 ≤ x.2.1 ∧ x.2.1 < whole_0 ∧ x.1 * whole_0 + x.2.1 = (size / 2 ^ (x.2.2 + 1).toNat) * share_0) (fun x => (x.2.2 + 1).toNat) ⟨by decide, by decide, Int.le_refl 0, Int.le_refl 0, w0, ?_⟩ ?_
      · have : size / 2 ^ ((30 : Int) + 1).toNat = 0 := by
          have : (2 : Int) ^ ((30 : Int) + 1).toNat = 2147483648 := rfl
          rw [this]; omega
        dsimp only
        rw [this]; omega
      rintro ⟨q, r, k⟩ ⟨k0, k1, q0, r0, r1, he⟩
      dsimp only at k0 k1 q0 r0 r1 he ⊢
      rw [w32_of (x := k) (by omega) (by omega)]
      refine wp_if (fun g => ?_) (fun g => ?_)
      · obtain ⟨n, hn⟩ : ∃ n : Nat, k = n := ⟨k.toNat, by omega⟩
        subst hn
        have e1 : ((n : Int) + 1).toNat = n + 1 := by omega
        have e2 : ((n : Int) + -1 + 1).toNat = n := by omega
        rw [e1] at he
        have hb := bit_of (x := size) (k := n) bs.1 (by omega) (by omega)
        have hp : (2 : Int) ^ (n + 1) = 2 ^ n * 2 := Int.pow_succ _ _
        have hdiv : size / 2 ^ n = 2 * (size / 2 ^ (n + 1)) + (size / 2 ^ n) % 2 := by
          rw [hp, ← Int.ediv_ediv_of_nonneg (Int.le_of_lt (p2_pos n))]
          omega
        generalize size / 2 ^ (n + 1) = S1 at *
        generalize hS : size / 2 ^ n = S at *
        rw [hb, w64_of (x := S % 2) (by omega) (by omega)]
        refine wp_lt (fun t et => wp_ck (by omega) ?_)
        have tv : 0 ≤ t ∧ t < 3 * whole_0 ∧ t = 2 * r + (S % 2) * share_0 := by
          rw [et]
          have : S % 2 = 0 ∨ S % 2 = 1 := by omega
          rcases this with z | z <;> rw [z]
          · rw [if_neg (by decide)]; omega
          · rw [if_pos rfl]; omega
        obtain ⟨t0, t1, t2⟩ := tv
        have dv := (ldv_nn (x := t) (y := whole_0) t0 (by omega) w0 (by omega)).1
        rw [dv]
        have d0 := Int.ediv_nonneg t0 (Int.le_of_lt w0)
        have m0 := Int.emod_nonneg t (show whole_0 ≠ 0 by omega)
        have m1 := Int.emod_lt_of_pos t w0
        have hd : t / whole_0 * whole_0 + t % whole_0 = t := Int.ediv_mul_add_emod _ _
        generalize t / whole_0 = D at *
        generalize t % whole_0 = M at *
        refine wp_il ⟨⟨by dsimp only; omega, by dsimp only; omega, by dsimp only; omega, by dsimp only; omega, by dsimp only; omega, ?_⟩, by dsimp only; omega⟩
        dsimp only
        rw [e2, hS, hdiv]
        have g1 : (2 * q + D) * whole_0 + (t - D * whole_0) = 2 * (q * whole_0) + t := by grind
        have g2 : (2 * S1 + S % 2) * share_0 = 2 * (S1 * share_0) + S % 2 * share_0 := by grind
        rw [g1, g2]; omega
      · have hk : k = -1 := by omega
        subst hk
        have e0 : size / 2 ^ ((-1 : Int) + 1).toNat = size := by
          show size / 1 = size
          omega
        rw [e0] at he
        exact wp_ir ⟨q0, r0, r1, he⟩
  · rintro ⟨v, r⟩ _ ⟨v0, v1, r0, r1, he⟩
    dsimp only at v0 v1 r0 r1 he ⊢
    rw [w64_of (x := 2 * r) (by omega) (by omega)]
    refine wp_lt (fun b eb => wp_some ?_)
    rcases ha with ⟨p0, p1⟩ | ⟨p0, p1⟩
    · rw [if_pos p0] at eb ⊢
      have hw2 : way_0 * share_0 = v * whole_0 + r := by rw [he, p1]
      rw [hw2]
      by_cases z : whole_0 ≤ 2 * r
      · rw [show b = true by rw [eb]; exact decide_eq_true z, if_pos rfl]
        constructor <;> grind
      · rw [show b = false by rw [eb]; exact decide_eq_false z, if_neg (by decide)]
        constructor <;> grind
    · rw [if_neg (by omega)] at eb ⊢
      have hw2 : way_0 * share_0 = -(v * whole_0 + r) := by rw [he, p1]; grind
      rw [hw2]
      by_cases z : whole_0 < 2 * r
      · rw [show b = true by rw [eb]; exact decide_eq_true z, if_pos rfl]
        constructor <;> grind
      · rw [show b = false by rw [eb]; exact decide_eq_false z, if_neg (by decide)]
        constructor <;> grind
/-- what is told of hot pixels so far are keys of places that may be -/
def KYs (σ : SG) : Prop := ∀ i, 0 ≤ i → i < σ kN_keyCount 0 → okey (σ kN_keys i)
theorem KYs_f {ms ss : List Nat} {σ τ : SG} (f : FC ms ss σ τ) (h : dj ms [kN_keyCount, kN_keys] = true) (g : KYs σ) : KYs τ := by
  unfold KYs
  have e1 : τ kN_keyCount = σ kN_keyCount := f.1 _ (by decide) (fun q => by have := dj_c h (c := kN_keyCount) (by decide); rw [List.contains_iff_mem.mpr q] at this; cases this)
  have e2 : τ kN_keys = σ kN_keys := f.1 _ (by decide) (fun q => by have := dj_c h (c := kN_keys) (by decide); rw [List.contains_iff_mem.mpr q] at this; cases this)
  rw [e1, e2]; exact g
theorem KYs_add {σ τ υ : SG} {v : Int} (e1 : τ = sg σ kN_keys (σ kN_keyCount 0) v) (e2 : υ = sg τ kN_keyCount 0 (τ kN_keyCount 0 + 1)) (h : KYs σ) (hv : okey v) : KYs υ := by
  intro i i0 i1
  have c1 : υ kN_keyCount 0 = σ kN_keyCount 0 + 1 := by rw [e2, sg_at, e1, sg_nc (by decide)]
  rw [c1] at i1
  rw [e2, sg_nc (by decide), e1]
  by_cases z : i = σ kN_keyCount 0
  · rw [z, sg_at]; exact hv
  · rw [sg_ni z]; exact h i i0 (by omega)
theorem v_sortOutKeys {σ : SG} (hσ : II σ) (w0 : KYs σ) : wp_ (fN_sortOutKeys σ) (fun r => II r.2 ∧ FC [kN_keyCount, kN_keys] [] σ r.2 ∧ (KYs r.2) ∧ ((r.1 = true) → (r.2 kN_keyCount 0 ≤ 8192))) := by
  unfold fN_sortOutKeys
  have b := ii_kN_keyCount hσ 0
  refine wp_bd (v_sortRow (σ := σ) (row_0 := 200) (row_n := 16384) (size_0 := σ kN_keyCount 0) hσ (by decide) (by decide) ⟨b.1, b.2⟩) ?_
  rintro τ _ ⟨hτ, f, g⟩
  have c1 : τ kN_keyCount 0 = σ kN_keyCount 0 := FC_at f (c := kN_keyCount) (by decide) 0
  rw [c1]
  refine wp_bd (v_leaveEachOnce (σ := τ) (row_0 := 200) (row_n := 16384) (size_0 := σ kN_keyCount 0) hτ (by decide) (by decide) ⟨b.1, b.2⟩) ?_
  rintro ⟨x, υ⟩ _ ⟨⟨x0, x1, -⟩, hυ, fu, gu⟩
  dsimp only at x0 x1 hυ fu gu ⊢
  refine wp_wfI hυ b_kN_keyCount (by omega) (fun φ hφ e => wp_some ⟨hφ, ?_, ?_, fun q => ?_⟩)
  · have f2 := FC_tr (ms := [kN_keyCount, kN_keys]) (ss := []) f fu (by decide) (by decide) (by simp) (by simp)
    exact FC_tr f2 (FC_sg e (by decide)) (by decide) (by decide) (by simp) (by simp)
  · show KYs φ
    intro i i0 i1
    have c2 : φ kN_keyCount 0 = x := by rw [e, sg_at]
    rw [c2] at i1
    obtain ⟨j, j0, j1, e1⟩ := gu.1 i i0 (by omega)
    obtain ⟨k, k0, k1, e2⟩ := g.1 j j0 j1
    have e3 : φ kN_keys i = σ kN_keys k := by rw [e, sg_nc (by decide)]; exact e1.trans e2
    rw [e3]; exact w0 k k0 k1
  · dsimp only at q ⊢
    have c2 : φ kN_keyCount 0 = x := by rw [e, sg_at]
    rw [c2] at q ⊢
    have := of_decide_eq_true q
    rwa [w32_of (by omega) (by omega)] at this
/-- coordinates of segments are near -/
def SNc (σ : SG) : Prop := ∀ i, 0 ≤ i → i < σ (kE_size 194) 0 → (-500000000 ≤ σ 49920 i ∧ σ 49920 i ≤ 500000000) ∧ (-500000000 ≤ σ 50176 i ∧ σ 50176 i ≤ 500000000) ∧ (-500000000 ≤ σ 50432 i ∧ σ 50432 i ≤ 500000000) ∧ (-500000000 ≤ σ 50688 i ∧ σ 50688 i ≤ 500000000)
theorem SNc_f {ms ss : List Nat} {σ τ : SG} (f : FC ms ss σ τ) (h : dj ms [kE_size 194, 49920, 50176, 50432, 50688] = true) (g : SNc σ) : SNc τ := by
  unfold SNc
  have e : ∀ c, [kE_size 194, 49920, 50176, 50432, 50688].contains c = true → 42496 ≤ c → τ c = σ c := fun c hc hl => f.1 _ (Or.inr hl) (fun q => by have := dj_c h (c := c) hc; rw [List.contains_iff_mem.mpr q] at this; cases this)
  rw [e (kE_size 194) (by decide) (by decide), e 49920 (by decide) (by decide), e 50176 (by decide) (by decide), e 50432 (by decide) (by decide), e 50688 (by decide) (by decide)]
  exact g
/-- of shapes: points are near -/
def SNs (σ : SG) (s : Nat) : Prop := ∀ k, 0 ≤ k → k < σ (kA_points s) 0 → (-500000000 ≤ σ (kA_x s) k ∧ σ (kA_x s) k ≤ 500000000) ∧ (-500000000 ≤ σ (kA_y s) k ∧ σ (kA_y s) k ≤ 500000000)
theorem SNs_f {ms ss : List Nat} {σ τ : SG} {s : Nat} (f : FC ms ss σ τ) (hs : isS s) (hn : NS ss s) (h : SNs σ s) : SNs τ s := by
  unfold SNs
  rw [FC_x f hs hn, FC_y f hs hn, FC_points f hs hn]; exact h
theorem near_px {a d num den r : Int} (ha : -500000000 ≤ a ∧ a ≤ 500000000) (had : -500000000 ≤ a + d ∧ a + d ≤ 500000000) (n0 : 0 ≤ num) (n1 : num ≤ den) (d0 : 0 < den) (h1 : (2 * r - 1) * den ≤ 2 * (a * den + d * num)) (h2 : 2 * (a * den + d * num) < (2 * r + 1) * den) : -500000000 ≤ r ∧ r ≤ 500000000 := near_r ha had n0 n1 d0 h1 h2
/-- the share and the whole of a crossing -/
theorem PCE_sh {ax ay bx by_ cx cy dx dy : Int} (h : (oi_ cx cy dx dy ax ay < 0 ∧ 0 < oi_ cx cy dx dy bx by_) ∨ (0 < oi_ cx cy dx dy ax ay ∧ oi_ cx cy dx dy bx by_ < 0)) (h1 : -500000000 ≤ ax ∧ ax ≤ 500000000) (h2 : -500000000 ≤ ay ∧ ay ≤ 500000000) (h3 : -500000000 ≤ bx ∧ bx ≤ 500000000) (h4 : -500000000 ≤ by_ ∧ by_ ≤ 500000000) (h5 : -500000000 ≤ cx ∧ cx ≤ 500000000) (h6 : -500000000 ≤ cy ∧ cy ≤ 500000000) (h7 : -500000000 ≤ dx ∧ dx ≤ 500000000) (h8 : -500000000 ≤ dy ∧ dy ≤ 500000000) : ∃ num den : Int, 0 ≤ num ∧ num ≤ den ∧ 0 < den ∧ den ≤ 2000000000000000000 ∧ q_abl ((bx - ax) * (dy - cy) - (by_ - ay) * (dx - cx)) = den ∧ q_abl ((cx - ax) * (dy - cy) - (cy - ay) * (dx - cx)) = num := by
  have m1 := ml_b (M := 1000000000) (N := 1000000000) (a := bx - ax) (b := dy - cy) (by decide) (by decide) (by omega) (by omega)
  have m2 := ml_b (M := 1000000000) (N := 1000000000) (a := by_ - ay) (b := dx - cx) (by decide) (by decide) (by omega) (by omega)
  have m3 := ml_b (M := 1000000000) (N := 1000000000) (a := cx - ax) (b := dy - cy) (by decide) (by decide) (by omega) (by omega)
  have m4 := ml_b (M := 1000000000) (N := 1000000000) (a := cy - ay) (b := dx - cx) (by decide) (by decide) (by omega) (by omega)
  have e1 : (bx - ax) * (dy - cy) - (by_ - ay) * (dx - cx) = oi_ cx cy dx dy ax ay - oi_ cx cy dx dy bx by_ := by unfold oi_; grind
  have e2 : (cx - ax) * (dy - cy) - (cy - ay) * (dx - cx) = oi_ cx cy dx dy ax ay := by unfold oi_; grind
  have a1 := q_abl_bd ((bx - ax) * (dy - cy) - (by_ - ay) * (dx - cx))
  have a2 := q_abl_bd ((cx - ax) * (dy - cy) - (cy - ay) * (dx - cx))
  rw [w64_of (by omega) (by omega)] at a1 a2
  refine ⟨_, _, ?_, ?_, ?_, ?_, rfl, rfl⟩ <;> omega
end SNQ
section SNR
theorem SNc_add {σ τ : SG} {b : Bool} {s : Nat} {f t m : Int} (h1 : b = false → τ = σ) (h2 : b = true → τ (kE_size 194) 0 = σ (kE_size 194) 0 + 1 ∧ τ (kE_mark 194) (σ (kE_size 194) 0) = m ∧ (τ (kE_ax 194) (σ (kE_size 194) 0) = σ (kA_x s) f ∧ τ (kE_ay 194) (σ (kE_size 194) 0) = σ (kA_y s) f ∧ τ (kE_bx 194) (σ (kE_size 194) 0) = σ (kA_x s) t ∧ τ (kE_by 194) (σ (kE_size 194) 0) = σ (kA_y s) t) ∧ ∀ i, i ≠ σ (kE_size 194) 0 → τ (kE_mark 194) i = σ (kE_mark 194) i ∧ τ (kE_ax 194) i = σ (kE_ax 194) i ∧ τ (kE_ay 194) i = σ (kE_ay 194) i ∧ τ (kE_bx 194) i = σ (kE_bx 194) i ∧ τ (kE_by 194) i = σ (kE_by 194) i) (g : SNc σ) (hn : SNs σ s) (hf : 0 ≤ f ∧ f < σ (kA_points s) 0) (ht : 0 ≤ t ∧ t < σ (kA_points s) 0) : SNc τ := by
  cases b with
  | false => rw [h1 rfl]; exact g
  | true =>
    obtain ⟨a, -, ⟨b1, b2, b3, b4⟩, c⟩ := h2 rfl
    intro i i0 i1
    rw [a] at i1
    have nf := hn f hf.1 hf.2
    have nt := hn t ht.1 ht.2
    show (-500000000 ≤ τ (kE_ax 194) i ∧ τ (kE_ax 194) i ≤ 500000000) ∧ (-500000000 ≤ τ (kE_ay 194) i ∧ τ (kE_ay 194) i ≤ 500000000) ∧ (-500000000 ≤ τ (kE_bx 194) i ∧ τ (kE_bx 194) i ≤ 500000000) ∧ (-500000000 ≤ τ (kE_by 194) i ∧ τ (kE_by 194) i ≤ 500000000)
    by_cases z : i = σ (kE_size 194) 0
    · rw [z, b1, b2, b3, b4]; exact ⟨nf.1, nf.2, nt.1, nt.2⟩
    · obtain ⟨-, c1, c2, c3, c4⟩ := c i z
      rw [c1, c2, c3, c4]; exact g i i0 (by omega)
theorem w32_key {x i : Int} (h : 0 ≤ i ∧ i < 2147483648) : w32 (x * 4294967296 + i) = i := by
  show (Int32.ofInt (x * 4294967296 + i)).toInt = _
  have hz : ((Int32.size : Nat) : Int) = 4294967296 := rfl
  rw [Int32.toInt_ofInt, Int.bmod_def, hz]
  split <;> omega
/-- what stands in the order are numbers of segments, above them whatever it is -/
def ORs (σ : SG) (n m : Int) : Prop := ∀ k, 0 ≤ k → k < n → 0 ≤ w32 (σ kN_order k) ∧ w32 (σ kN_order k) < m
theorem ORs_0 (σ : SG) (m : Int) : ORs σ 0 m := fun k a b => by omega
theorem ORs_add {σ τ : SG} {n m x i : Int} (h : ORs σ n m) (e : τ = sg σ kN_order n (q_lor (q_lsl x 32) i)) (hx : -1000000000 ≤ x ∧ x ≤ 1000000000) (hi : 0 ≤ i ∧ i < m) (hm : m ≤ 2048) : ORs τ (n + 1) m := by
  intro k k0 k1
  rw [e]
  by_cases z : k = n
  · rw [z, sg_at]
    have := lor_lsl (a := x) (b := i) (k := 32) (by decide) (by show -9223372036854775808 ≤ x * 4294967296; omega) (by show x * 4294967296 + i < _; omega) hi.1 (by show i < 4294967296; omega)
    have e2 : q_lor (q_lsl x 32) i = x * 4294967296 + i := this
    rw [e2, w32_key (by omega)]; exact hi
  · rw [sg_ni z]; exact h k k0 (by omega)
theorem ORs_sb {σ τ : SG} {n m : Int} (h : ORs σ n m) (s : SB (201 * 256) n σ τ) : ORs τ n m := fun k k0 k1 => by
  obtain ⟨j, j0, j1, e⟩ := s.1 k k0 k1
  have e2 : τ kN_order k = σ kN_order j := e
  rw [e2]; exact h j j0 j1
theorem ORs_f {ms ss : List Nat} {σ τ : SG} {n m : Int} (f : FC ms ss σ τ) (h : dj ms [kN_order] = true) (g : ORs σ n m) : ORs τ n m := by
  have e2 : τ kN_order = σ kN_order := f.1 _ (by decide) (fun q => by have := dj_c h (c := kN_order) (by decide); rw [List.contains_iff_mem.mpr q] at this; cases this)
  unfold ORs
  rw [e2]; exact g
/-- the chain holds hot pixels -/
def CHs (σ : SG) (n H : Int) : Prop := ∀ k, 0 ≤ k → k < n → 0 ≤ σ kN_chain k ∧ σ kN_chain k < H
theorem CHs_0 (σ : SG) (H : Int) : CHs σ 0 H := fun k a b => by omega
theorem CHs_add {σ τ : SG} {n h H : Int} (g : CHs σ n H) (e : τ = sg σ kN_chain n h) (hh : 0 ≤ h ∧ h < H) : CHs τ (n + 1) H := by
  intro k k0 k1
  rw [e]
  by_cases z : k = n
  · rw [z, sg_at]; exact hh
  · rw [sg_ni z]; exact g k k0 (by omega)
theorem CHs_sb {σ τ : SG} {n H : Int} (g : CHs σ n H) (s : SB kN_chain n σ τ) : CHs τ n H := fun k k0 k1 => by
  obtain ⟨j, j0, j1, e⟩ := s.1 k k0 k1
  rw [e]; exact g j j0 j1
theorem CHs_f {ms ss : List Nat} {σ τ : SG} {n H : Int} (f : FC ms ss σ τ) (h : dj ms [kN_chain] = true) (g : CHs σ n H) : CHs τ n H := by
  have e2 : τ kN_chain = σ kN_chain := f.1 _ (by decide) (fun q => by have := dj_c h (c := kN_chain) (by decide); rw [List.contains_iff_mem.mpr q] at this; cases this)
  unfold CHs; rw [e2]; exact g
/-- what stands in the order are pieces -/
def ORp (σ : SG) (n H : Int) : Prop := ∀ k, 0 ≤ k → k < n → ∃ a b m : Int, (0 ≤ a ∧ a < H) ∧ (0 ≤ b ∧ b < H) ∧ (0 ≤ m ∧ m ≤ 3) ∧ σ kN_order k = (a * 8192 + b) * 4 + m
theorem ORp_0 (σ : SG) (H : Int) : ORp σ 0 H := fun k a b => by omega
theorem ORp_add {σ τ : SG} {n a b m H : Int} (g : ORp σ n H) (e : τ = sg σ kN_order n (q_lor (q_lsl (q_lor (q_lsl a 13) b) 2) m)) (ha : 0 ≤ a ∧ a < H) (hb : 0 ≤ b ∧ b < H) (hm : 0 ≤ m ∧ m ≤ 3) (hH : H ≤ 8192) : ORp τ (n + 1) H := by
  intro k k0 k1
  rw [e]
  by_cases z : k = n
  · rw [z, sg_at, piece_v ⟨ha.1, by omega⟩ ⟨hb.1, by omega⟩ hm]; exact ⟨a, b, m, ha, hb, hm, rfl⟩
  · rw [sg_ni z]; exact g k k0 (by omega)
theorem ORp_sb {σ τ : SG} {n H : Int} (g : ORp σ n H) (s : SB (201 * 256) n σ τ) : ORp τ n H := fun k k0 k1 => by
  obtain ⟨j, j0, j1, e⟩ := s.1 k k0 k1
  have e2 : τ kN_order k = σ kN_order j := e
  rw [e2]; exact g j j0 j1
theorem ORp_f {ms ss : List Nat} {σ τ : SG} {n H : Int} (f : FC ms ss σ τ) (h : dj ms [kN_order] = true) (g : ORp σ n H) : ORp τ n H := by
  have e2 : τ kN_order = σ kN_order := f.1 _ (by decide) (fun q => by have := dj_c h (c := kN_order) (by decide); rw [List.contains_iff_mem.mpr q] at this; cases this)
  unfold ORp; rw [e2]; exact g
theorem piece_p {x a b m H : Int} (ha : 0 ≤ a ∧ a < H) (hb : 0 ≤ b ∧ b < H) (hm : 0 ≤ m ∧ m ≤ 3) (hH : H ≤ 8192) (e : x = (a * 8192 + b) * 4 + m) : q_lsr (q_lsr x 2) 13 = a ∧ q_lan (q_lsr x 2) 8191 = b ∧ q_lan x 3 = m := by
  rw [lsr2 (x := x) (by omega) (by omega), lsr13 (by omega) (by omega), lan8191, lan3]
  omega
/-- pieces lie between hot pixels -/
def PFs (σ : SG) (H : Int) : Prop := ∀ p, 0 ≤ p → p < σ kN_pieces 0 → (0 ≤ σ kN_pieceFrom p ∧ σ kN_pieceFrom p < H) ∧ (0 ≤ σ kN_pieceTo p ∧ σ kN_pieceTo p < H)
theorem PFs_0 {σ : SG} {H : Int} (h : σ kN_pieces 0 = 0) : PFs σ H := fun p a b => by omega
theorem PFs_f {ms ss : List Nat} {σ τ : SG} {H : Int} (f : FC ms ss σ τ) (h : dj ms [kN_pieces, kN_pieceFrom, kN_pieceTo] = true) (g : PFs σ H) : PFs τ H := by
  have e : ∀ c, [kN_pieces, kN_pieceFrom, kN_pieceTo].contains c = true → 42496 ≤ c → τ c = σ c := fun c hc hl => f.1 _ (Or.inr hl) (fun q => by have := dj_c h (c := c) hc; rw [List.contains_iff_mem.mpr q] at this; cases this)
  unfold PFs
  rw [e kN_pieces (by decide) (by decide), e kN_pieceFrom (by decide) (by decide), e kN_pieceTo (by decide) (by decide)]; exact g
theorem PFs_add {σ s1 s2 s3 τ : SG} {H a b m : Int} (g : PFs σ H) (e1 : s1 = sg σ kN_pieceFrom (σ kN_pieces 0) a) (e2 : s2 = sg s1 kN_pieceTo (s1 kN_pieces 0) b) (e3 : s3 = sg s2 kN_pieceMask (s2 kN_pieces 0) m) (e4 : τ = sg s3 kN_pieces 0 (s3 kN_pieces 0 + 1)) (ha : 0 ≤ a ∧ a < H) (hb : 0 ≤ b ∧ b < H) : PFs τ H ∧ τ kN_pieces 0 = σ kN_pieces 0 + 1 := by
  have c1 : s1 kN_pieces 0 = σ kN_pieces 0 := by rw [e1, sg_nc (by decide)]
  have c2 : s2 kN_pieces 0 = σ kN_pieces 0 := by rw [e2, sg_nc (by decide), c1]
  have c3 : s3 kN_pieces 0 = σ kN_pieces 0 := by rw [e3, sg_nc (by decide), c2]
  have c4 : τ kN_pieces 0 = σ kN_pieces 0 + 1 := by rw [e4, sg_at, c3]
  refine ⟨fun p p0 p1 => ?_, c4⟩
  rw [c4] at p1
  rw [e4, sg_nc (by decide), sg_nc (by decide), e3, sg_nc (by decide), sg_nc (by decide), e2, sg_nc (by decide), c1]
  by_cases z : p = σ kN_pieces 0
  · rw [z, sg_at, e1, sg_at]; exact ⟨ha, hb⟩
  · rw [sg_ni z, e1, sg_ni z, sg_nc (by decide)]; exact g p p0 (by omega)
theorem PCE_f {ms ss : List Nat} {σ τ : SG} {i j : Int} (f : FC ms ss σ τ) (h : dj ms [49920, 50176, 50432, 50688] = true) (g : PCE σ 194 i j) : PCE τ 194 i j := by
  have e : ∀ c, [49920, 50176, 50432, 50688].contains c = true → 42496 ≤ c → τ c = σ c := fun c hc hl => f.1 _ (Or.inr hl) (fun q => by have := dj_c h (c := c) hc; rw [List.contains_iff_mem.mpr q] at this; cases this)
  have e1 : τ (kE_ax 194) = σ (kE_ax 194) := e 49920 (by decide) (by decide)
  have e2 : τ (kE_ay 194) = σ (kE_ay 194) := e 50176 (by decide) (by decide)
  have e3 : τ (kE_bx 194) = σ (kE_bx 194) := e 50432 (by decide) (by decide)
  have e4 : τ (kE_by 194) = σ (kE_by 194) := e 50688 (by decide) (by decide)
  unfold PCE TE at *
  rw [e1, e2, e3, e4]; exact g
end SNR
