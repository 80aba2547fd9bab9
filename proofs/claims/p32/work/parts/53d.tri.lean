section TRD
/-- an empty circle with its places in their order -/
def CG (σ : SG) (L : Int) (f : Int → Int) : Prop := 3 ≤ L ∧ L ≤ σ kR_spots 0 ∧ (∀ i, 0 ≤ i → i < L → 0 ≤ f i ∧ f i < σ kR_spots 0) ∧ 0 < OI σ (f 0) (f 1) (f 2) ∧ (∀ k, 0 ≤ k → k < σ kR_spots 0 → CI σ (f 0) (f 1) (f 2) k ≤ 0) ∧ (∀ k, 0 ≤ k → k < σ kR_spots 0 → (CI σ (f 0) (f 1) (f 2) k = 0 ↔ ∃ i, 0 ≤ i ∧ i < L ∧ f i = k)) ∧ (∀ i, 1 ≤ i → i < L → FI σ (f 0) < FI σ (f i)) ∧ (∀ i j, 1 ≤ i → i < j → j < L → 0 < OI σ (f 0) (f i) (f j))
def MB (L : Int) (f : Int → Int) (k : Int) : Prop := ∃ i, 0 ≤ i ∧ i < L ∧ f i = k
/-- next to one another -/
def ED (L : Int) (f : Int → Int) (p q : Int) : Prop := ∃ i, 0 ≤ i ∧ i < L ∧ p = f i ∧ q = f (if i + 1 < L then i + 1 else 0)
theorem OI_rot (σ : SG) (a b c : Int) : OI σ a b c = OI σ b c a := oi_rot _ _ _ _ _ _
theorem OI_sw (σ : SG) (a b c : Int) : OI σ b a c = -OI σ a b c := oi_sw _ _ _ _ _ _
theorem CI_re {σ : SG} {a b c m k w : Int} (hm : CI σ a b c m = 0) (hk : CI σ a b c k = 0) (hw : CI σ a b c w = 0) (h1 : 0 < OI σ a b c) (h2 : 0 < OI σ m k w) (z : Int) : (CI σ m k w z = 0 ↔ CI σ a b c z = 0) ∧ (CI σ m k w z ≤ 0 ↔ CI σ a b c z ≤ 0) := by
  have h := ci_re hm hk hw (σ kR_spotX z) (σ kR_spotY z)
  have s := sg_of_mul h2 h1 h
  exact ⟨s.1.symm, s.2.2.symm⟩
/-- from what is gathered of an empty circle -/
theorem CG_of {σ : SG} {a b c : Int} {f : Int → Int} {L : Int} (h0 : 0 < OI σ a b c) (he : ∀ k, 0 ≤ k → k < σ kR_spots 0 → CI σ a b c k ≤ 0) (h : GC σ a b c f L) : CG σ L f := by
  obtain ⟨h1, h2, h3, h4, h5, h6⟩ := h
  have c0 := h3 0 (by omega) (by omega)
  have c1 := h3 1 (by omega) (by omega)
  have c2 := h3 2 (by omega) (by omega)
  have o := h6 1 2 (by omega) (by omega) (by omega)
  have r := CI_re (σ := σ) c0.2.2 c1.2.2 c2.2.2 h0 o
  refine ⟨h1, h2, fun i i0 i1 => ⟨(h3 i i0 i1).1, (h3 i i0 i1).2.1⟩, o, fun k k0 k1 => (r k).2.mpr (he k k0 k1), fun k k0 k1 => ?_, h5, h6⟩
  rw [(r k).1]
  constructor
  · exact h4 k k0 k1
  · rintro ⟨i, i0, i1, e⟩
    rw [← e]; exact (h3 i i0 i1).2.2
theorem CG_on {σ : SG} {L : Int} {f : Int → Int} (h : CG σ L f) {i : Int} (i0 : 0 ≤ i) (i1 : i < L) : CI σ (f 0) (f 1) (f 2) (f i) = 0 := by
  obtain ⟨h1, h2, h3, h4, h5, h6, h7, h8⟩ := h
  exact (h6 (f i) (h3 i i0 i1).1 (h3 i i0 i1).2).mpr ⟨i, i0, i1, rfl⟩
theorem CG_inj {σ : SG} {L : Int} {f : Int → Int} (h : CG σ L f) {i j : Int} (i0 : 0 ≤ i) (i1 : i < L) (j0 : 0 ≤ j) (j1 : j < L) (e : f i = f j) : i = j := by
  obtain ⟨h1, h2, h3, h4, h5, h6, h7, h8⟩ := h
  have key : ∀ i j, 0 ≤ i → i < j → j < L → f i ≠ f j := by
    intro i j i0 ij j1 e
    by_cases q : i = 0
    · have := h7 j (by omega) j1
      rw [← e, q] at this; omega
    · have := h8 i j (by omega) ij j1
      rw [e, OI_0] at this; omega
  rcases Int.lt_trichotomy i j with q | q | q
  · exact absurd e (key i j i0 q j1)
  · exact q
  · exact absurd e.symm (key j i j0 q i1)
/-- three places in their order turn left -/
theorem CG_turn {σ : SG} {L : Int} {f : Int → Int} (h : CG σ L f) {i j l : Int} (i0 : 0 ≤ i) (ij : i < j) (jl : j < l) (l1 : l < L) : 0 < OI σ (f i) (f j) (f l) := by
  have c0 := CG_on h (i := 0) (by omega) (by omega)
  have ci := CG_on h (i := i) (by omega) (by omega)
  have cj := CG_on h (i := j) (by omega) (by omega)
  have cl := CG_on h (i := l) (by omega) (by omega)
  obtain ⟨h1, h2, h3, h4, h5, h6, h7, h8⟩ := h
  by_cases q : i = 0
  · rw [q]; exact h8 j l (by omega) jl l1
  · have a1 := h8 i j (by omega) ij (by omega)
    have a2 := h8 j l (by omega) jl l1
    have a3 := h8 i l (by omega) (by omega) l1
    have r := (CI_re (σ := σ) c0 ci cl h4 a3 (f j)).1.mpr cj
    exact ci_turn r a1 a2
theorem ED_in {σ : SG} {L : Int} {f : Int → Int} (h : CG σ L f) {p q : Int} (e : ED L f p q) : (0 ≤ p ∧ p < σ kR_spots 0) ∧ (0 ≤ q ∧ q < σ kR_spots 0) ∧ p ≠ q ∧ MB L f p ∧ MB L f q := by
  obtain ⟨i, i0, i1, rfl, rfl⟩ := e
  have h1 := h.1
  have hq : 0 ≤ (if i + 1 < L then i + 1 else 0) ∧ (if i + 1 < L then i + 1 else 0) < L ∧ (if i + 1 < L then i + 1 else 0) ≠ i := by split <;> omega
  refine ⟨h.2.2.1 i i0 i1, h.2.2.1 _ hq.1 hq.2.1, fun q => hq.2.2 (CG_inj h i0 i1 hq.1 hq.2.1 q).symm, ⟨i, i0, i1, rfl⟩, ⟨_, hq.1, hq.2.1, rfl⟩⟩
/-- all others lie to the left of an edge -/
theorem ED_left {σ : SG} {L : Int} {f : Int → Int} (h : CG σ L f) {p q k : Int} (e : ED L f p q) (hk : MB L f k) (kp : k ≠ p) (kq : k ≠ q) : 0 < OI σ p q k := by
  obtain ⟨i, i0, i1, rfl, rfl⟩ := e
  obtain ⟨j, j0, j1, rfl⟩ := hk
  have nji : j ≠ i := fun q => kp (by rw [q])
  by_cases g : i + 1 < L
  · rw [if_pos g] at kq ⊢
    have nj1 : j ≠ i + 1 := fun q => kq (by rw [q])
    by_cases r : j < i
    · rw [← OI_rot]; exact CG_turn h j0 r (by omega) g
    · exact CG_turn h i0 (by omega) (by omega) j1
  · rw [if_neg g] at kq ⊢
    have nj1 : j ≠ 0 := fun q => kq (by rw [q])
    rw [OI_rot]
    exact CG_turn h (by omega) (by omega) (by omega) i1
/-- two places with all others to the left are next to one another -/
theorem ED_of {σ : SG} {L : Int} {f : Int → Int} (h : CG σ L f) {p q : Int} (hp : MB L f p) (hq : MB L f q) (hpq : p ≠ q) (ha : ∀ k, MB L f k → k ≠ p → k ≠ q → 0 < OI σ p q k) : ED L f p q := by
  obtain ⟨i, i0, i1, rfl⟩ := hp
  obtain ⟨j, j0, j1, rfl⟩ := hq
  have nij : i ≠ j := fun e => hpq (by rw [e])
  have h1 := h.1
  have no : ∀ l, 0 ≤ l → l < L → l ≠ i → l ≠ j → 0 < OI σ (f i) (f j) (f l) := fun l l0 l1 n1 n2 => ha (f l) ⟨l, l0, l1, rfl⟩ (fun e => n1 (CG_inj h l0 l1 i0 i1 e)) (fun e => n2 (CG_inj h l0 l1 j0 j1 e))
  refine ⟨i, i0, i1, rfl, ?_⟩
  congr 1
  by_cases g : i + 1 < L
  · rw [if_pos g]
    by_cases e : j = i + 1
    · exact e
    · exfalso
      by_cases r : i < j
      · have a := no (i + 1) (by omega) g (by omega) (by omega)
        have b := CG_turn h i0 (show i < i + 1 by omega) (show i + 1 < j by omega) j1
        rw [OI_as] at b; omega
      · by_cases s : j = 0
        · -- behind i there is another place
          have a := no (i + 1) (by omega) g (by omega) (by omega)
          have b := CG_turn h j0 (show j < i by omega) (show i < i + 1 by omega) g
          rw [OI_sw] at a; omega
        · have a := no 0 (by omega) (by omega) (by omega) (by omega)
          have b := CG_turn h (show (0 : Int) ≤ 0 by omega) (show 0 < j by omega) (show j < i by omega) i1
          rw [OI_rot, OI_sw] at b
          rw [OI_rot, OI_rot] at a
          have := OI_as σ (f 0) (f i) (f j)
          have := OI_rot σ (f 0) (f i) (f j)
          have := OI_rot σ (f 0) (f j) (f i)
          have := OI_sw σ (f i) (f j) (f 0)
          omega
  · rw [if_neg g]
    by_cases e : j = 0
    · exact e
    · exfalso
      have a := no 0 (by omega) (by omega) (by omega) (by omega)
      have b := CG_turn h (show (0 : Int) ≤ 0 by omega) (show 0 < j by omega) (show j < i by omega) i1
      have c1 := OI_as σ (f 0) (f i) (f j)
      have c2 := OI_rot σ (f 0) (f i) (f j)
      omega
/-- a third place of the circle -/
theorem ED_third {σ : SG} {L : Int} {f : Int → Int} (h : CG σ L f) {p q : Int} (e : ED L f p q) : ∃ r, MB L f r ∧ r ≠ p ∧ r ≠ q ∧ 0 < OI σ p q r ∧ ∀ z, (CI σ p q r z = 0 ↔ CI σ (f 0) (f 1) (f 2) z = 0) ∧ (CI σ p q r z ≤ 0 ↔ CI σ (f 0) (f 1) (f 2) z ≤ 0) := by
  have e0 := e
  obtain ⟨i, i0, i1, hp, hq⟩ := e
  have h1 := h.1
  have ex : ∃ l, 0 ≤ l ∧ l < L ∧ l ≠ i ∧ l ≠ (if i + 1 < L then i + 1 else 0) := by
    by_cases g : i + 1 < L
    · rw [if_pos g]
      by_cases s : i = 0
      · exact ⟨2, by omega, by omega, by omega, by omega⟩
      · exact ⟨0, by omega, by omega, by omega, by omega⟩
    · rw [if_neg g]; exact ⟨1, by omega, by omega, by omega, by omega⟩
  obtain ⟨l, l0, l1, n1, n2⟩ := ex
  have hj : 0 ≤ (if i + 1 < L then i + 1 else 0) ∧ (if i + 1 < L then i + 1 else 0) < L := by split <;> omega
  have np : f l ≠ p := fun e => n1 (CG_inj h l0 l1 i0 i1 (by rw [e, hp]))
  have nq : f l ≠ q := fun e => n2 (CG_inj h l0 l1 hj.1 hj.2 (by rw [e, hq]))
  have o := ED_left h e0 ⟨l, l0, l1, rfl⟩ np nq
  refine ⟨f l, ⟨l, l0, l1, rfl⟩, np, nq, o, fun z => ?_⟩
  exact CI_re (by rw [hp]; exact CG_on h i0 i1) (by rw [hq]; exact CG_on h hj.1 hj.2) (CG_on h l0 l1) h.2.2.2.1 o z
/-- the middle place of a triangle of the fan, and on which side of it that lies -/
def code_ (σ : SG) (f : Int → Int) (k : Int) : Nat := if FI σ (f k) < FI σ (f (k + 1)) then 2 * (f k).toNat else 2 * (f (k + 1)).toNat + 1
theorem CI_sw (σ : SG) (a b c p : Int) : CI σ b a c p = -CI σ a b c p := ci_sw _ _ _ _ _ _ _ _
theorem CI_rot (σ : SG) (a b c p : Int) : CI σ a b c p = CI σ b c a p := ci_rot _ _ _ _ _ _ _ _
/-- one middle place and one side: one circle -/
theorem code_one {σ : SG} (hd : DS σ) {L M : Int} {f g : Int → Int} (hf : CG σ L f) (hg : CG σ M g) {k l : Int} (k1 : 1 ≤ k) (k2 : k + 1 < L) (l1 : 1 ≤ l) (l2 : l + 1 < M) (e : code_ σ f k = code_ σ g l) : (∀ z, 0 ≤ z → z < σ kR_spots 0 → (MB L f z ↔ MB M g z)) := by
  have F0 := hf.2.2.1
  have G0 := hg.2.2.1
  have rf0 := F0 0 (by omega) (by omega)
  have rfk := F0 k (by omega) (by omega)
  have rfk1 := F0 (k + 1) (by omega) (by omega)
  have rg0 := G0 0 (by omega) (by omega)
  have rgl := G0 l (by omega) (by omega)
  have rgl1 := G0 (l + 1) (by omega) (by omega)
  have of := CG_turn hf (show (0 : Int) ≤ 0 by omega) (show 0 < k by omega) (show k < k + 1 by omega) k2
  have og := CG_turn hg (show (0 : Int) ≤ 0 by omega) (show 0 < l by omega) (show l < l + 1 by omega) l2
  have cf := fun z => CI_re (σ := σ) (CG_on hf (i := 0) (by omega) (by omega)) (CG_on hf (i := k) (by omega) (by omega)) (CG_on hf (i := k + 1) (by omega) (by omega)) hf.2.2.2.1 of z
  have cg := fun z => CI_re (σ := σ) (CG_on hg (i := 0) (by omega) (by omega)) (CG_on hg (i := l) (by omega) (by omega)) (CG_on hg (i := l + 1) (by omega) (by omega)) hg.2.2.2.1 og z
  have ef : ∀ z, 0 ≤ z → z < σ kR_spots 0 → CI σ (f 0) (f k) (f (k + 1)) z ≤ 0 := fun z z0 z1 => (cf z).2.mpr (hf.2.2.2.2.1 z z0 z1)
  have eg : ∀ z, 0 ≤ z → z < σ kR_spots 0 → CI σ (g 0) (g l) (g (l + 1)) z ≤ 0 := fun z z0 z1 => (cg z).2.mpr (hg.2.2.2.2.1 z z0 z1)
  have lf1 := hf.2.2.2.2.2.2.1 k k1 (by omega)
  have lf2 := hf.2.2.2.2.2.2.1 (k + 1) (by omega) (by omega)
  have lg1 := hg.2.2.2.2.2.2.1 l l1 (by omega)
  have lg2 := hg.2.2.2.2.2.2.1 (l + 1) (by omega) (by omega)
  have fin : (∀ z, CI σ (f 0) (f k) (f (k + 1)) z = 0 ↔ CI σ (g 0) (g l) (g (l + 1)) z = 0) → ∀ z, 0 ≤ z → z < σ kR_spots 0 → (MB L f z ↔ MB M g z) := by
    intro hz z z0 z1
    unfold MB
    rw [← hf.2.2.2.2.2.1 z z0 z1, ← hg.2.2.2.2.2.1 z z0 z1, ← (cf z).1, ← (cg z).1]
    exact hz z
  unfold code_ at e
  by_cases a : FI σ (f k) < FI σ (f (k + 1))
  · by_cases c : FI σ (g l) < FI σ (g (l + 1))
    · rw [if_pos a, if_pos c] at e
      have eq : f k = g l := by omega
      apply fin
      intro z
      rw [eq] at of lf1 a ef
      have := ci_over (m := 8589934592) (q1 := σ kR_spotX (g l)) (q2 := σ kR_spotY (g l)) (u1 := σ kR_spotX (f 0)) (u2 := σ kR_spotY (f 0)) (v1 := σ kR_spotX (f (k + 1))) (v2 := σ kR_spotY (f (k + 1))) (s1 := σ kR_spotX (g 0)) (s2 := σ kR_spotY (g 0)) (t1 := σ kR_spotX (g (l + 1))) (t2 := σ kR_spotY (g (l + 1))) of og lf1 a lg1 c (ef _ rg0.1 rg0.2) (ef _ rgl1.1 rgl1.2) (eg _ rf0.1 rf0.2) (eg _ rfk1.1 rfk1.2) (σ kR_spotX z) (σ kR_spotY z)
      rw [eq]; exact this
    · rw [if_pos a, if_neg c] at e; omega
  · by_cases c : FI σ (g l) < FI σ (g (l + 1))
    · rw [if_neg a, if_pos c] at e; omega
    · rw [if_neg a, if_neg c] at e
      have eq : f (k + 1) = g (l + 1) := by omega
      have a2 : FI σ (f (k + 1)) < FI σ (f k) := by
        have : FI σ (f k) ≠ FI σ (f (k + 1)) := fun q => by
          have := CG_inj hf (by omega) (by omega) (by omega) (by omega) (hd _ _ rfk.1 rfk.2 rfk1.1 rfk1.2 q)
          omega
        omega
      have c2 : FI σ (g (l + 1)) < FI σ (g l) := by
        have : FI σ (g l) ≠ FI σ (g (l + 1)) := fun q => by
          have := CG_inj hg (by omega) (by omega) (by omega) (by omega) (hd _ _ rgl.1 rgl.2 rgl1.1 rgl1.2 q)
          omega
        omega
      apply fin
      intro z
      have sf : ∀ z, CI σ (f 0) (f (k + 1)) (f k) z = -CI σ (f 0) (f k) (f (k + 1)) z := by intro z; rw [CI_rot, CI_sw, ← CI_rot σ (f 0)]
      have sg : ∀ z, CI σ (g 0) (g (l + 1)) (g l) z = -CI σ (g 0) (g l) (g (l + 1)) z := by intro z; rw [CI_rot, CI_sw, ← CI_rot σ (g 0)]
      have o1 : OI σ (f 0) (f (k + 1)) (f k) < 0 := by rw [OI_as]; omega
      have o2 : OI σ (g 0) (g (l + 1)) (g l) < 0 := by rw [OI_as]; omega
      have p1 := ef _ rg0.1 rg0.2
      have p2 := ef _ rgl.1 rgl.2
      have p3 := eg _ rf0.1 rf0.2
      have p4 := eg _ rfk.1 rfk.2
      have q1 := sf (g 0)
      have q2 := sf (g l)
      have q3 := sg (f 0)
      have q4 := sg (f k)
      have qf := sf z
      have qg := sg z
      rw [eq] at o1 lf2 a2 q1 q2 qf
      have := ci_under (m := 8589934592) (q1 := σ kR_spotX (g (l + 1))) (q2 := σ kR_spotY (g (l + 1))) (u1 := σ kR_spotX (f 0)) (u2 := σ kR_spotY (f 0)) (v1 := σ kR_spotX (f k)) (v2 := σ kR_spotY (f k)) (s1 := σ kR_spotX (g 0)) (s2 := σ kR_spotY (g 0)) (t1 := σ kR_spotX (g l)) (t2 := σ kR_spotY (g l)) o1 o2 lf2 a2 lg2 c2 (show 0 ≤ CI σ (f 0) (g (l + 1)) (f k) (g 0) by rw [eq] at p1; omega) (show 0 ≤ CI σ (f 0) (g (l + 1)) (f k) (g l) by rw [eq] at p2; omega) (show 0 ≤ CI σ (g 0) (g (l + 1)) (g l) (f 0) by omega) (show 0 ≤ CI σ (g 0) (g (l + 1)) (g l) (f k) by omega) (σ kR_spotX z) (σ kR_spotY z)
      have t : CI σ (f 0) (g (l + 1)) (f k) z = 0 ↔ CI σ (g 0) (g (l + 1)) (g l) z = 0 := this
      rw [qf, qg] at t
      rw [eq]
      constructor
      · intro h; have := t.mp (by omega); omega
      · intro h; have := t.mpr (by omega); omega
end TRD
