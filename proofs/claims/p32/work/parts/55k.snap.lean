section SNK
theorem c_oi (a b c d e f : Int) : ((oi_ a b c d e f : Int) : Rat) = ((c : Int) - (a : Int) : Rat) * ((f : Int) - (b : Int)) - ((d : Int) - (b : Int)) * ((e : Int) - (a : Int)) := by
  unfold oi_
  rw [c_sub, Rat.intCast_mul, Rat.intCast_mul, c_sub, c_sub, c_sub, c_sub]
theorem c_neg {a : Int} (h : ((a : Int) : Rat) < 0) : a < 0 := Rat.intCast_lt_intCast.mp (show ((a : Int) : Rat) < ((0 : Int) : Rat) from h)
theorem c_posr {a : Int} (h : 0 < ((a : Int) : Rat)) : 0 < a := Rat.intCast_lt_intCast.mp (show ((0 : Int) : Rat) < ((a : Int) : Rat) from h)
theorem px_cx {p s e num den : Int} {u : Rat} (h0 : 0 < den) (hu : ((num : Int) : Rat) = u * ((den : Int) : Rat)) (h1 : (2 * p - 1) * den ≤ 2 * (s * den + (e - s) * num)) (h2 : 2 * (s * den + (e - s) * num) < (2 * p + 1) * den) : px_ ((p : Int) : Rat) ((1 - u) * ((s : Int) : Rat) + u * ((e : Int) : Rat)) := by
  have d0 := c_pos h0
  have k1 : (((2 * p - 1) * den : Int) : Rat) ≤ ((2 * (s * den + (e - s) * num) : Int) : Rat) := Rat.intCast_le_intCast.mpr h1
  have k2 : ((2 * (s * den + (e - s) * num) : Int) : Rat) < (((2 * p + 1) * den : Int) : Rat) := Rat.intCast_lt_intCast.mpr h2
  have e1 : (((2 * p - 1) * den : Int) : Rat) = (2 * ((p : Int) : Rat) - 1) * ((den : Int) : Rat) := by rw [Rat.intCast_mul, c_sub, Rat.intCast_mul]; rfl
  have e2 : (((2 * p + 1) * den : Int) : Rat) = (2 * ((p : Int) : Rat) + 1) * ((den : Int) : Rat) := by rw [Rat.intCast_mul, Rat.intCast_add, Rat.intCast_mul]; rfl
  have e3 : ((2 * (s * den + (e - s) * num) : Int) : Rat) = 2 * ((1 - u) * ((s : Int) : Rat) + u * ((e : Int) : Rat)) * ((den : Int) : Rat) := by
    rw [Rat.intCast_mul, Rat.intCast_add, Rat.intCast_mul, Rat.intCast_mul, c_sub, hu]
    show (2 : Rat) * _ = _
    grind
  rw [e1, e3] at k1
  rw [e2, e3] at k2
  exact ⟨le_of_mul d0 k1, lt_of_mul d0 k2⟩
theorem hx_lt {σ : SG} (hh : HSo σ σ) {i j : Int} (i0 : 0 ≤ i) (ij : i < j) (j1 : j < σ kR_segments 0) : hotx_ (HTs σ) (σ kR_sx i : Int) (σ kR_sy i : Int) (σ kR_ex i : Int) (σ kR_ey i : Int) (σ kR_sx j : Int) (σ kR_sy j : Int) (σ kR_ex j : Int) (σ kR_ey j : Int) := by
  intro u v u0 u1 v0 v1 q1 q2
  obtain ⟨-, hends, hcr⟩ := hh
  have fromHM : ∀ x y : Int, HM σ x y → (1 - u) * (σ kR_sx i : Int) + u * (σ kR_ex i : Int) = ((x : Int) : Rat) → (1 - u) * (σ kR_sy i : Int) + u * (σ kR_ey i : Int) = ((y : Int) : Rat) → ∃ h1 h2, HTs σ h1 h2 ∧ px_ h1 ((1 - u) * (σ kR_sx i : Int) + u * (σ kR_ex i : Int)) ∧ px_ h2 ((1 - u) * (σ kR_sy i : Int) + u * (σ kR_ey i : Int)) := by
    rintro x y ⟨g, g0, g1, g2, g3⟩ z1 z2
    refine ⟨_, _, ⟨g, g0, g1, rfl, rfl⟩, ?_, ?_⟩
    · rw [z1, g2]; exact px_self _
    · rw [z2, g3]; exact px_self _
  by_cases a1 : u = 0
  · exact Or.inr (fromHM _ _ (hends i i0 (by omega)).1 (by rw [a1]; grind) (by rw [a1]; grind))
  by_cases a2 : u = 1
  · exact Or.inr (fromHM _ _ (hends i i0 (by omega)).2 (by rw [a2]; grind) (by rw [a2]; grind))
  by_cases a3 : v = 0
  · exact Or.inr (fromHM _ _ (hends j (by omega) j1).1 (by rw [q1, a3]; grind) (by rw [q2, a3]; grind))
  by_cases a4 : v = 1
  · exact Or.inr (fromHM _ _ (hends j (by omega) j1).2 (by rw [q1, a4]; grind) (by rw [q2, a4]; grind))
  by_cases par : ((σ kR_ex i : Int) - (σ kR_sx i : Int) : Rat) * ((σ kR_ey j : Int) - (σ kR_sy j : Int)) = ((σ kR_ey i : Int) - (σ kR_sy i : Int)) * ((σ kR_ex j : Int) - (σ kR_sx j : Int))
  · exact Or.inl par
  right
  have b1 : 0 < u := by grind
  have b2 : 0 < 1 - u := by grind
  have b3 : 0 < v := by grind
  have b4 : 0 < 1 - v := by grind
  generalize hK : ((σ kR_ex i : Int) - (σ kR_sx i : Int) : Rat) * ((σ kR_ey j : Int) - (σ kR_sy j : Int)) - ((σ kR_ey i : Int) - (σ kR_sy i : Int)) * ((σ kR_ex j : Int) - (σ kR_sx j : Int)) = K
  have t1 : ((TS σ i (σ kR_sx j) (σ kR_sy j) : Int) : Rat) = -(v * K) := by unfold TS; rw [c_oi, ← hK]; grind
  have t2 : ((TS σ i (σ kR_ex j) (σ kR_ey j) : Int) : Rat) = (1 - v) * K := by unfold TS; rw [c_oi, ← hK]; grind
  have t3 : ((TS σ j (σ kR_sx i) (σ kR_sy i) : Int) : Rat) = u * K := by unfold TS; rw [c_oi, ← hK]; grind
  have t4 : ((TS σ j (σ kR_ex i) (σ kR_ey i) : Int) : Rat) = -((1 - u) * K) := by unfold TS; rw [c_oi, ← hK]; grind
  have K0 : K < 0 ∨ 0 < K := by rcases gm_tri K 0 with q | q | q <;> grind
  have pc : PC σ i j := by
    rcases K0 with q | q
    · have m1 := Rat.mul_pos b3 (show 0 < -K by grind)
      have m2 := Rat.mul_pos b4 (show 0 < -K by grind)
      have m3 := Rat.mul_pos b1 (show 0 < -K by grind)
      have m4 := Rat.mul_pos b2 (show 0 < -K by grind)
      exact ⟨Or.inr ⟨c_posr (by rw [t1]; grind), c_neg (by rw [t2]; grind)⟩, Or.inl ⟨c_neg (by rw [t3]; grind), c_posr (by rw [t4]; grind)⟩⟩
    · have m1 := Rat.mul_pos b3 q
      have m2 := Rat.mul_pos b4 q
      have m3 := Rat.mul_pos b1 q
      have m4 := Rat.mul_pos b2 q
      exact ⟨Or.inl ⟨c_neg (by rw [t1]; grind), c_posr (by rw [t2]; grind)⟩, Or.inr ⟨c_posr (by rw [t3]; grind), c_neg (by rw [t4]; grind)⟩⟩
  obtain ⟨p, q, ⟨g, g0, g1, g2, g3⟩, x0, x1, x2, x3, x4⟩ := hcr i j i0 ij j1 pc
  have hu : ((sd_ σ i j * nu_ σ i j : Int) : Rat) = u * ((sd_ σ i j * de_ σ i j : Int) : Rat) := by
    rw [Rat.intCast_mul, Rat.intCast_mul]
    have n1 : ((nu_ σ i j : Int) : Rat) = u * K := t3
    have n2 : ((de_ σ i j : Int) : Rat) = K := by
      show ((TS σ j (σ kR_sx i) (σ kR_sy i) - TS σ j (σ kR_ex i) (σ kR_ey i) : Int) : Rat) = K
      rw [c_sub, t3, t4]; grind
    rw [n1, n2]; grind
  refine ⟨_, _, ⟨g, g0, g1, rfl, rfl⟩, ?_, ?_⟩
  · rw [g2]; exact px_cx x0 hu x1 x2
  · rw [g3]; exact px_cx x0 hu x3 x4
theorem hx_all {σ : SG} (hh : HSo σ σ) {i j : Int} (i0 : 0 ≤ i) (i1 : i < σ kR_segments 0) (j0 : 0 ≤ j) (j1 : j < σ kR_segments 0) : hotx_ (HTs σ) (σ kR_sx i : Int) (σ kR_sy i : Int) (σ kR_ex i : Int) (σ kR_ey i : Int) (σ kR_sx j : Int) (σ kR_sy j : Int) (σ kR_ex j : Int) (σ kR_ey j : Int) := by
  rcases Int.lt_trichotomy i j with c | c | c
  · exact hx_lt hh i0 c j1
  · subst c
    intro u v _ _ _ _ _ _
    left; grind
  · intro u v u0 u1 v0 v1 q1 q2
    rcases hx_lt hh j0 c i1 v u v0 v1 u0 u1 q1.symm q2.symm with q | ⟨h1, h2, q, p1, p2⟩
    · left; grind
    · right
      refine ⟨h1, h2, q, ?_, ?_⟩
      · rw [q1]; exact p1
      · rw [q2]; exact p2
/-- two pieces from one place: they have no other place in common, or one end -/
theorem ray2 {H : Rat → Rat → Prop} {s1 s2 e1 e2 W1 W2 B1 B2 t1 t2 f1 f2 D1 D2 u v : Rat} (h : pie_ H s1 s2 e1 e2 W1 W2 B1 B2) (k : pie_ H t1 t2 f1 f2 W1 W2 D1 D2) (u0 : 0 ≤ u) (v0 : 0 ≤ v) (q1 : (1 - u) * W1 + u * B1 = (1 - v) * W1 + v * D1) (q2 : (1 - u) * W2 + u * B2 = (1 - v) * W2 + v * D2) : ((1 - u) * W1 + u * B1 = W1 ∧ (1 - u) * W2 + u * B2 = W2) ∨ (B1 = D1 ∧ B2 = D2) := by
  by_cases a : u = 0
  · left; rw [a]; constructor <;> grind
  by_cases b : v = 0
  · left; rw [q1, q2, b]; constructor <;> grind
  right
  exact pie_ray h k (u := u) (v := v) (by grind) (by grind) (by grind) (by grind)
/-- the pieces are a net -/
theorem net_of {σ τ : SG} {β : Bool} (hh : HSo σ σ) (hq : PQ σ τ (σ kR_segments 0)) (hp0 : 0 ≤ τ kR_pieces 0) (hz : ∀ g, 0 ≤ g → g < σ kR_hots 0 → xs_ (σ kR_segments 0).toNat (fun j : Nat => bq_ β (q_isl 1 (σ kR_shapeOf j)) && Bool.xor (st_ σ g j) (sn_ σ g j)) = false) :
    Net_ (σ kR_hots 0).toNat (τ kR_pieces 0).toNat (fun w => ((σ kR_hotX w : Int) : Rat)) (fun w => ((σ kR_hotY w : Int) : Rat)) (fun k => (τ kR_pieceFrom k).toNat) (fun k => (τ kR_pieceTo k).toNat) (fun k => bq_ β (τ kR_pieceBits k)) := by
  obtain ⟨⟨⟨pr, po⟩, pw⟩, -, pu⟩ := hq
  have rg : ∀ k : Nat, k < (τ kR_pieces 0).toNat → 0 ≤ τ kR_pieceFrom k ∧ τ kR_pieceFrom k < τ kR_pieceTo k ∧ τ kR_pieceTo k < σ kR_hots 0 := fun k hk => pr k (by omega) (by omega)
  have tn : ∀ k : Nat, k < (τ kR_pieces 0).toNat → (((τ kR_pieceFrom k).toNat : Nat) : Int) = τ kR_pieceFrom k ∧ (((τ kR_pieceTo k).toNat : Nat) : Int) = τ kR_pieceTo k := fun k hk => by have := rg k hk; omega
  have pi : ∀ k : Nat, k < (τ kR_pieces 0).toNat → ∃ i, 0 ≤ i ∧ i < σ kR_segments 0 ∧ pie_ (HTs σ) (σ kR_sx i : Int) (σ kR_sy i : Int) (σ kR_ex i : Int) (σ kR_ey i : Int) (σ kR_hotX ((τ kR_pieceFrom k).toNat : Nat) : Int) (σ kR_hotY ((τ kR_pieceFrom k).toNat : Nat) : Int) (σ kR_hotX ((τ kR_pieceTo k).toNat : Nat) : Int) (σ kR_hotY ((τ kR_pieceTo k).toNat : Nat) : Int) := by
    intro k hk
    obtain ⟨i, i0, i1, hp⟩ := pw (τ kR_pieceFrom k) (τ kR_pieceTo k) ⟨k, by omega, by omega, rfl, rfl⟩
    refine ⟨i, i0, i1, ?_⟩
    rw [(tn k hk).1, (tn k hk).2]
    exact hp
  have inj : ∀ i j : Nat, i < (σ kR_hots 0).toNat → j < (σ kR_hots 0).toNat → ((σ kR_hotX i : Int) : Rat) = ((σ kR_hotX j : Int) : Rat) → ((σ kR_hotY i : Int) : Rat) = ((σ kR_hotY j : Int) : Rat) → i = j := by
    intro i j hi hj e1 e2
    by_cases c : i = j
    · exact c
    · have := HO_ne hh.1.1 (g := i) (h := j) (by omega) (by omega) (by omega) (by omega) (by omega)
      rw [Rat.intCast_inj] at e1 e2
      omega
  have hint : ∀ x y, HTs σ x y → (∃ k : Int, x = k) ∧ ∃ k : Int, y = k := fun x y ⟨g, _, _, e1, e2⟩ => ⟨⟨_, e1⟩, ⟨_, e2⟩⟩
  refine ⟨fun k hk => by have := rg k hk; dsimp only; omega, fun k hk => ?_, fun j k hj hk jk u v u0 u1 v0 v1 q1 q2 => ?_, fun k w hk hw u u0 u1 q1 q2 => ?_, inj, fun w hw => ?_⟩
  · obtain ⟨i, -, -, hp⟩ := pi k hk
    exact hp.1
  · obtain ⟨a, a0, a1, hj'⟩ := pi j hj
    obtain ⟨b, b0, b1, hk'⟩ := pi k hk
    have rj := rg j hj
    have rk := rg k hk
    have same : ¬ (τ kR_pieceFrom j = τ kR_pieceFrom k ∧ τ kR_pieceTo j = τ kR_pieceTo k) := by
      rintro ⟨z1, z2⟩
      rcases Nat.lt_trichotomy j k with c | c | c
      · have := po j k (by omega) (by omega) (by omega); unfold lx_ at this; omega
      · exact jk c
      · have := po k j (by omega) (by omega) (by omega); unfold lx_ at this; omega
    dsimp only at q1 q2 ⊢
    have ij := fun (x y : Int) (x0 : 0 ≤ x) (x1 : x < σ kR_hots 0) (y0 : 0 ≤ y) (y1 : y < σ kR_hots 0) => inj x.toNat y.toNat (by omega) (by omega)
    rcases pie_meet hint hj' hk' (hx_all hh a0 a1 b0 b1) u0 u1 v0 v1 q1 q2 with ⟨m1, m2⟩ | ⟨m1, m2⟩ | ⟨m1, m2⟩ | ⟨m1, m2⟩
    · have w := ij _ _ (by omega) (by omega) (by omega) (by omega) m1 m2
      rw [← w] at hk' q1 q2 ⊢
      rcases ray2 hj' hk' u0 v0 q1 q2 with ⟨r1, r2⟩ | ⟨r1, r2⟩
      · exact ⟨_, Or.inl rfl, Or.inl rfl, r1, r2⟩
      · have w2 := ij _ _ (by omega) (by omega) (by omega) (by omega) r1 r2
        exact absurd ⟨by omega, by omega⟩ same
    · have w := ij _ _ (by omega) (by omega) (by omega) (by omega) m1 m2
      rw [← w] at hk' q1 q2 ⊢
      rcases ray2 hj' (pie_symm hk') u0 (show 0 ≤ 1 - v by grind) (by grind) (by grind) with ⟨r1, r2⟩ | ⟨r1, r2⟩
      · exact ⟨_, Or.inl rfl, Or.inr rfl, r1, r2⟩
      · have w2 := ij _ _ (by omega) (by omega) (by omega) (by omega) r1 r2
        exfalso; omega
    · have w := ij _ _ (by omega) (by omega) (by omega) (by omega) m1 m2
      rw [← w] at hk' q1 q2 ⊢
      rcases ray2 (pie_symm hj') hk' (show 0 ≤ 1 - u by grind) v0 (by grind) (by grind) with ⟨r1, r2⟩ | ⟨r1, r2⟩
      · exact ⟨_, Or.inr rfl, Or.inl rfl, by grind, by grind⟩
      · have w2 := ij _ _ (by omega) (by omega) (by omega) (by omega) r1 r2
        exfalso; omega
    · have w := ij _ _ (by omega) (by omega) (by omega) (by omega) m1 m2
      rw [← w] at hk' q1 q2 ⊢
      rcases ray2 (pie_symm hj') (pie_symm hk') (show 0 ≤ 1 - u by grind) (show 0 ≤ 1 - v by grind) (by grind) (by grind) with ⟨r1, r2⟩ | ⟨r1, r2⟩
      · exact ⟨_, Or.inr rfl, Or.inr rfl, by grind, by grind⟩
      · have w2 := ij _ _ (by omega) (by omega) (by omega) (by omega) r1 r2
        exact absurd ⟨by omega, by omega⟩ same
  · obtain ⟨i, -, -, hp⟩ := pi k hk
    exact pie_open hp ⟨w, by omega, by omega, rfl, rfl⟩ q1.symm q2.symm u0 u1
  · have h := pu β w (by omega) (by omega)
    rw [hz w (by omega) (by omega)] at h
    rw [← h]
    unfold PU
    refine xs_cg (fun k hk => ?_)
    have r := rg k hk
    have e1 : ((τ kR_pieceFrom k).toNat == w) = decide (τ kR_pieceFrom k = w) := by rw [Bool.eq_iff_iff]; simp; omega
    have e2 : ((τ kR_pieceTo k).toNat == w) = decide (τ kR_pieceTo k = w) := by rw [Bool.eq_iff_iff]; simp; omega
    unfold dg_
    dsimp only
    rw [e1, e2]
end SNK
