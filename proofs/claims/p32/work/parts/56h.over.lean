section SHO
def XSg (σ : SG) (x y : Int) (β : Bool) : Bool := xs_ (σ kR_segments 0).toNat (fun j : Nat => bq_ β (q_isl 1 (σ kR_shapeOf j)) && Bool.xor (decide (x = σ kR_sx j ∧ y = σ kR_sy j)) (decide (x = σ kR_ex j ∧ y = σ kR_ey j)))
theorem CLs_XS {σ : SG} : CLs σ ↔ ∀ x y β, XSg σ x y β = false := Iff.rfl
theorem XS_0 {σ : SG} (h : σ kR_segments 0 = 0) : CLs σ := fun x y β => by rw [h]; rfl
theorem XS_seg {σ τ : SG} {f t r n s : Int} (hm : 0 ≤ σ kR_segments 0) (sa : SA σ τ f t r n s) (x y : Int) (β : Bool) : XSg τ x y β = Bool.xor (XSg σ x y β) (bq_ β (q_isl 1 s) && Bool.xor (decide (x = σ kR_xs f ∧ y = σ kR_ys f)) (decide (x = σ kR_xs t ∧ y = σ kR_ys t))) := by
  obtain ⟨a, ⟨b1, b2, b3, b4, b5, b6, b7⟩, c⟩ := sa
  have en : (τ kR_segments 0).toNat = (σ kR_segments 0).toNat + 1 := by omega
  have ek : (((σ kR_segments 0).toNat : Nat) : Int) = σ kR_segments 0 := by omega
  unfold XSg
  rw [en]
  show Bool.xor (xs_ (σ kR_segments 0).toNat _) _ = _
  dsimp only
  rw [ek, b1, b2, b3, b4, b7]
  congr 1
  refine xs_cg (fun j hj => ?_)
  obtain ⟨c1, c2, c3, c4, c5, c6, c7⟩ := c j (by omega)
  rw [c1, c2, c3, c4, c7]
theorem xo_tel (X b p q r : Bool) : Bool.xor (Bool.xor X (b && Bool.xor p q)) (b && Bool.xor q r) = Bool.xor X (b && Bool.xor p r) := by
  cases X <;> cases b <;> cases p <;> cases q <;> cases r <;> rfl
theorem xo_self (X b p : Bool) : Bool.xor X (b && Bool.xor p p) = X := by
  cases X <;> cases b <;> cases p <;> rfl
/-- the points of slot s are near -/
def NRs (σ : SG) (s : Int) : Prop := ∀ i, 2048 * s ≤ i → i < 2048 * s + σ kR_pointMany s → (-500000000 ≤ σ kR_xs i ∧ σ kR_xs i ≤ 500000000) ∧ (-500000000 ≤ σ kR_ys i ∧ σ kR_ys i ≤ 500000000)
theorem SN_seg {σ τ : SG} {f t r n s : Int} (sa : SA σ τ f t r n s) (hn : SN σ) (hf : (-500000000 ≤ σ kR_xs f ∧ σ kR_xs f ≤ 500000000) ∧ (-500000000 ≤ σ kR_ys f ∧ σ kR_ys f ≤ 500000000)) (ht : (-500000000 ≤ σ kR_xs t ∧ σ kR_xs t ≤ 500000000) ∧ (-500000000 ≤ σ kR_ys t ∧ σ kR_ys t ≤ 500000000)) : SN τ := by
  obtain ⟨a, ⟨b1, b2, b3, b4, b5, b6, b7⟩, c⟩ := sa
  intro i i0 i1
  by_cases q : i = σ kR_segments 0
  · rw [q, b1, b2, b3, b4]; exact ⟨hf.1, hf.2, ht.1, ht.2⟩
  · obtain ⟨c1, c2, c3, c4, _⟩ := c i q
    rw [c1, c2, c3, c4]
    exact hn i i0 (by omega)
abbrev ocs : List Nat := [kR_outs, kR_outFrom, kR_outMany, kR_outArea, kR_corners]
theorem OC_f {σ τ : SG} {ms : List Nat} (f : FR ms σ τ) (h : dj ms ocs = true) (j : OC σ) : OC τ := by
  unfold OC at *
  rw [FR_dj f h (c := kR_outs) (by decide), FR_dj f h (c := kR_outFrom) (by decide), FR_dj f h (c := kR_outMany) (by decide), FR_dj f h (c := kR_outArea) (by decide), FR_dj f h (c := kR_corners) (by decide)]
  exact j
theorem EA_fr {σ τ : SG} {ms : List Nat} {a b : Int} (f : FR ms σ τ) (h : dj ms [kR_corner, kR_outFrom] = true) : EA τ a b ↔ EA σ a b := by
  unfold EA
  rw [FR_dj f h (c := kR_corner) (by decide), FR_dj f h (c := kR_outFrom) (by decide)]
theorem RO_fr {σ τ : SG} {ms : List Nat} {a b : Int} (f : FR ms σ τ) (h : dj ms [kR_outArea, kR_outShell] = true) : RO τ a b ↔ RO σ a b := by
  unfold RO
  rw [FR_dj f h (c := kR_outArea) (by decide), FR_dj f h (c := kR_outShell) (by decide)]
def eab (σ : SG) (a b : Int) : Bool := decide (σ kR_corner (σ kR_outFrom a) < σ kR_corner (σ kR_outFrom b)) || (decide (σ kR_corner (σ kR_outFrom a) = σ kR_corner (σ kR_outFrom b)) && decide (σ kR_corner (σ kR_outFrom a + 1) < σ kR_corner (σ kR_outFrom b + 1)))
theorem eab_t {σ : SG} {a b : Int} : eab σ a b = true ↔ EA σ a b := by
  unfold eab EA lx_
  rw [Bool.or_eq_true, Bool.and_eq_true, decide_eq_true_eq, decide_eq_true_eq, decide_eq_true_eq]
/-- how many rings come behind -/
def em_ (σ : SG) (h : Int) : Int := if h = -1 then 0 else 1 + ((ct_ (σ kR_outs 0).toNat (fun k : Nat => eab σ h k) : Nat) : Int)
theorem em_lt {σ : SG} {h k : Int} (h0 : 0 ≤ h) (k0 : -1 ≤ k) (k1 : k < σ kR_outs 0) (he : k ≠ -1 → EA σ h k) : (em_ σ k).toNat < (em_ σ h).toNat := by
  unfold em_
  rw [if_neg (show ¬ h = -1 by omega)]
  by_cases q : k = -1
  · rw [if_pos q]; omega
  · rw [if_neg q]
    have e := he q
    have := ct_lt (f := fun j : Nat => eab σ k j) (g := fun j : Nat => eab σ h j) (m := (σ kR_outs 0).toNat) (z := k.toNat) (fun j _ hj => by
      rw [eab_t] at hj ⊢
      unfold EA lx_ at *
      omega) (by omega) (by
      refine Bool.eq_false_iff.mpr (fun z => ?_)
      rw [eab_t, show ((k.toNat : Nat) : Int) = k by omega] at z
      unfold EA lx_ at z
      omega) (by rw [eab_t, show ((k.toNat : Nat) : Int) = k by omega]; exact e)
    omega
theorem RO_many {σ : SG} {s k : Int} (oc : OC σ) (k0 : 0 ≤ k) (k1 : k < σ kR_outs 0) (h : RO σ s k) : 0 < σ kR_outMany k := by
  obtain ⟨_, a, _, b⟩ := oc k k0 k1
  by_cases q : σ kR_outMany k = 0
  · have z := b q
    have z0 : w64 (σ kR_outArea k) = 0 := by rw [z]; exact w64_of (by decide) (by decide)
    rcases h with ⟨_, h⟩ | ⟨_, h, _⟩ <;> omega
  · omega
/-- a polygon was put behind all others, and counted at 65537 -/
def PGt (σ τ : SG) : Prop := eO (τ kR_plan) (65536 + σ kR_planMany 32) ∧ τ kR_plan (65536 + σ kR_planMany 32) = 3 ∧ 65536 + σ kR_planMany 32 + eL (τ kR_plan) (65536 + σ kR_planMany 32) = 65536 + τ kR_planMany 32 ∧ τ kR_pointMany 32 = σ kR_pointMany 32 + eP (τ kR_plan) (65536 + σ kR_planMany 32) ∧ τ kR_plan 65537 = σ kR_plan 65537 + 1 ∧ ∀ i, i < 65536 + σ kR_planMany 32 → i ≠ 65537 → τ kR_plan i = σ kR_plan i
/-- polygons that were told -/
def PGs (σ : SG) : Prop := 2 ≤ σ kR_planMany 32 ∧ σ kR_plan 65536 = 6 ∧ 0 ≤ σ kR_plan 65537 ∧ PT (σ kR_plan) 3 (σ kR_plan 65537).toNat 65538 (65536 + σ kR_planMany 32) ∧ FL (σ kR_plan) (σ kR_plan 65537).toNat 65538 (65536 + σ kR_planMany 32) (σ kR_pointMany 32)
theorem PGs_go {σ τ : SG} (h : PGs σ) (g : PGt σ τ) : PGs τ := by
  obtain ⟨a, b, c, d, e⟩ := h
  obtain ⟨g1, g2, g3, g4, g5, g6⟩ := g
  have l2 := eL_2 g1
  have s1 : ∀ i, 65538 ≤ i → i < 65536 + σ kR_planMany 32 → τ kR_plan i = σ kR_plan i := fun i i0 i1 => g6 i i1 (by omega)
  have p1 := PT_app (PT_cg d s1) g2 g1.2.2.1.1
  have f1 := FL_app (FL_cg e s1) g1
  rw [g3] at p1 f1
  rw [← g4] at f1
  have en : (τ kR_plan 65537).toNat = (σ kR_plan 65537).toNat + 1 := by omega
  refine ⟨by omega, by rw [g6 _ (by omega) (by decide)]; exact b, by omega, by rw [en]; exact p1, by rw [en]; exact f1⟩
theorem PGs_SH {σ : SG} (hm : σ kR_planMany 32 ≤ 2048) (h : PGs σ) : SHn σ := by
  obtain ⟨a, b, c, d, e⟩ := h
  have l := PT_le d
  have e6 := ep_g (pl := σ kR_plan) (p := 65536) (by omega)
  have l6 := el_n (pl := σ kR_plan) (p := 65536) (by omega)
  refine ⟨a, ⟨(σ kR_plan 65537).toNat + 1, ⟨by omega, by omega, ⟨(c : 0 ≤ σ kR_plan 65537), (by omega : σ kR_plan 65537 ≤ 2048)⟩, fun z => by omega, fun z => by omega⟩, ?_⟩, 1, ?_⟩
  · rw [l6, e6, Int.sub_zero]; exact e
  · exact Or.inr ⟨by omega, 65536 + σ kR_planMany 32, Or.inr (Or.inl ⟨by omega, by omega, c, by rw [b]; exact d⟩), ⟨rfl, rfl⟩⟩
end SHO
