section WRD
/-- the unshut levels of many parts, each before what it holds -/
def WL (pl lk lc : Int → Int) : Nat → Int → Prop
  | 0, _ => True
  | l + 1, b => WL pl lk lc l (lc l - 1) ∧ (4 ≤ lk l ∧ lk l ≤ 7) ∧ pl (lc l - 1) = lk l ∧ 0 ≤ pl (lc l) ∧ 2 * pl (lc l) ≤ b + 1 - lc l ∧ lc l + 1 ≤ b ∧ ∃ m T, FL pl m 0 (lc l - 1) T
theorem WL_cg {pl pm lk lc lk' lc' : Int → Int} : ∀ {l : Nat} {b b' : Int}, WL pl lk lc l b → b ≤ b' → (∀ i, i < b → pm i = pl i) → (∀ j : Int, 0 ≤ j → j < l → lk' j = lk j ∧ lc' j = lc j) → WL pm lk' lc' l b'
  | 0, _, _, _, _, _, _ => trivial
  | l + 1, b, b', ⟨h1, h2, h3, h4, h5, h6, m, T, h7⟩, hb, hp, hl => by
    obtain ⟨e1, e2⟩ := hl l (by omega) (by omega)
    have f := FL_le h7
    unfold WL
    rw [e1, e2, hp (lc l - 1) (by omega), hp (lc l) (by omega)]
    exact ⟨WL_cg h1 (by omega) (fun i c => hp i (by omega)) (fun j c d => hl j c (by omega)), h2, h3, h4, by omega, by omega, m, T, FL_cg h7 (fun i _ c => hp i (by omega))⟩
/-- an item may begin (or has begun) at p: what lies ahead is whole -/
def WO (pl lk lc : Int → Int) (l : Nat) (p T : Int) : Prop := (∃ m, FL pl m 0 p T) ∧ WL pl lk lc l p
theorem WO_cg {pl pm lk lc lk' lc' : Int → Int} {l : Nat} {p T : Int} (h : WO pl lk lc l p T) (hp : ∀ i, i < p → pm i = pl i) (hl : ∀ j : Int, 0 ≤ j → j < l → lk' j = lk j ∧ lc' j = lc j) : WO pm lk' lc' l p T := by
  obtain ⟨⟨m, h1⟩, h2⟩ := h
  exact ⟨⟨m, FL_cg h1 (fun i _ b => hp i b)⟩, WL_cg h2 (Int.le_refl _) hp hl⟩
/-- between two items, with d unshut levels -/
def WC (pl lk lc : Int → Int) (d : Nat) (q T : Int) : Prop :=
  (WO pl lk lc d q T ∧ ∀ l, d = l + 1 → 2 * pl (lc l) ≤ q - 1 - lc l)
  ∨ (∃ (l : Nat) (n : Int), d = l + 1 ∧ WO pl lk lc l (q - 2) (T - n) ∧ (lk l = 1 ∨ lk l = 2) ∧ lc l = q - 1 ∧ pl (q - 2) = lk l ∧ pl (q - 1) = n ∧ 0 ≤ n ∧ (lk l = 1 → n ≤ 1))
  ∨ (∃ (l : Nat) (p : Int), (d = l + 1 ∨ (d = l + 2 ∧ lk (l + 1 : Nat) = 8 ∧ lc (l + 1 : Nat) = q - 1 ∧ 1 ≤ pl (p + 1))) ∧ lk l = 3 ∧ lc l = p + 1 ∧ pl p = 3 ∧ q = p + 2 + pl (p + 1) ∧ 0 ≤ pl (p + 1) ∧ (∀ k, 0 ≤ k → k < pl (p + 1) → 0 ≤ pl (p + 2 + k)) ∧ WO pl lk lc l p (T - su_ pl (p + 2) (pl (p + 1)).toNat))
/-- an entry was added whole -/
theorem WC_close {pl lk lc : Int → Int} {l : Nat} {p q T T0 : Int} (h : WO pl lk lc l p T0) (ho : eO pl p) (hq : q = p + eL pl p) (hT : T = T0 + eP pl p) : WC pl lk lc l q T := by
  obtain ⟨⟨m, h1⟩, h2⟩ := h
  have l2 := eL_2 ho
  refine Or.inl ⟨⟨⟨m + 1, by rw [hq, hT]; exact FL_app h1 ho⟩, WL_cg h2 (by omega) (fun _ _ => rfl) (fun _ _ _ => ⟨rfl, rfl⟩)⟩, fun k e => ?_⟩
  subst e
  obtain ⟨-, -, -, -, h5, -, -⟩ := h2
  omega
/-- a shape that was begun at p is opened as a level -/
theorem WC_open {pl lk lc : Int → Int} {l : Nat} {p T k : Int} (h : WO pl lk lc l p T) (hk : 1 ≤ k ∧ k ≤ 7) (h1 : pl p = k) (h2 : pl (p + 1) = 0) (h3 : lk l = k) (h4 : lc l = p + 1) : WC pl lk lc (l + 1) (p + 2) T := by
  by_cases z : k ≤ 2
  · refine Or.inr (Or.inl ⟨l, 0, rfl, ?_, by omega, by omega, ?_, ?_, Int.le_refl _, fun _ => by omega⟩)
    · rw [show p + 2 - 2 = p by omega, Int.sub_zero]; exact h
    · rw [show p + 2 - 2 = p by omega]; omega
    · rw [show p + 2 - 1 = p + 1 by omega]; exact h2
  · by_cases z3 : k = 3
    · refine Or.inr (Or.inr ⟨l, p, Or.inl rfl, by omega, h4, by omega, by omega, by omega, fun k a b => by omega, ?_⟩)
      rw [h2]
      show WO pl lk lc l p (T - 0)
      rw [Int.sub_zero]; exact h
    · have ho : eO pl p := ⟨by omega, by omega, ⟨by omega, by omega⟩, fun z => by omega, fun z => by omega⟩
      have hl : eL pl p = 2 := by unfold eL; rw [if_neg (by omega)]
      have hp : eP pl p = 0 := by unfold eP; rw [if_neg (by omega), if_neg (by omega)]
      obtain ⟨⟨m, g1⟩, g2⟩ := h
      have g3 := FL_app g1 ho
      rw [hl, hp, Int.add_zero] at g3
      refine Or.inl ⟨⟨⟨m + 1, g3⟩, ?_⟩, fun j e => ?_⟩
      · refine ⟨by rw [h4, show p + 1 - 1 = p by omega]; exact g2, by omega, by rw [h4, show p + 1 - 1 = p by omega]; omega, by rw [h4]; omega, by rw [h4]; omega, by omega, m, T, ?_⟩
        rw [h4, show p + 1 - 1 = p by omega]; exact g1
      · have : j = l := by omega
        subst this
        rw [h4]; omega
/-- the end of a level's bracket -/
theorem WC_pop {pl lk lc : Int → Int} {d : Nat} {q T : Int} (h : WC pl lk lc (d + 1) q T) (hq : q ≤ 2048) (hT : T ≤ 2048) : WC pl lk lc d q T := by
  rcases h with ⟨⟨⟨m, h1⟩, h2⟩, h3⟩ | ⟨l, n, e, h1, h2, h3, h4, h5, h6, h7⟩ | ⟨l, p, h0, h1, h2, h3, h4, h5, h6, h7⟩
  · obtain ⟨g1, g2, g3, g4, g5, g6, m1, T1, g7⟩ := h2
    refine Or.inl ⟨⟨⟨m, h1⟩, WL_cg g1 (by omega) (fun _ _ => rfl) (fun _ _ _ => ⟨rfl, rfl⟩)⟩, fun l e => ?_⟩
    subst e
    obtain ⟨-, -, -, -, k5, -, -⟩ := g1
    omega
  · have : d = l := by omega
    subst this
    obtain ⟨⟨m, f⟩, -⟩ := id h1
    have f2 := FL_le f
    have ho : eO pl (q - 2) := ⟨by omega, by omega, by rw [show q - 2 + 1 = q - 1 by omega]; omega, fun z => by rw [show q - 2 + 1 = q - 1 by omega]; omega, fun z => by omega⟩
    refine WC_close h1 ho ?_ ?_
    · unfold eL; rw [if_neg (by omega)]; omega
    · unfold eP; rw [if_pos (by omega), show q - 2 + 1 = q - 1 by omega]; omega
  · rcases h0 with e | ⟨e, -, -, -⟩
    · have : d = l := by omega
      subst this
      obtain ⟨⟨m, f⟩, -⟩ := id h7
      have f2 := FL_le f
      have ho : eO pl p := ⟨by omega, by omega, by omega, fun z => by omega, fun _ => h6⟩
      refine WC_close h7 ho ?_ ?_
      · unfold eL; rw [if_pos h3]; omega
      · unfold eP; rw [if_neg (by omega), if_pos h3]; omega
    · exact Or.inr (Or.inr ⟨l, p, Or.inl (by omega), h1, h2, h3, h4, h5, h6, h7⟩)
/-- one item more is begun at the level of many parts -/
theorem WC_inc {pl pm lk lc : Int → Int} {l : Nat} {q T : Int} (h : WC pl lk lc (l + 1) q T) (hq : q ≤ 2048) (hk : 4 ≤ lk l ∧ lk l ≤ 7) (e1 : pm (lc l) = pl (lc l) + 1) (e : ∀ i, i ≠ lc l → pm i = pl i) : WO pm lk lc (l + 1) q T := by
  rcases h with ⟨⟨⟨m, h1⟩, h2⟩, h3⟩ | ⟨l', n, e', h1, h2, _⟩ | ⟨l', p, h0, h1, _⟩
  · obtain ⟨g1, g2, g3, g4, g5, g6, m1, T1, g7⟩ := h2
    have h4 := h3 l rfl
    have f := FL_le g7
    have e9 : ∀ i, i ≠ lc l - 1 + 1 → pm i = pl i := fun i hi => e i (by omega)
    have c9 : pm (lc l - 1 + 1) = pl (lc l) + 1 := by rw [show lc l - 1 + 1 = lc l by omega]; exact e1
    refine ⟨⟨m, FL_inc (p := lc l - 1) (by omega) (by omega) e9 g7 h1 (by omega)⟩, ?_⟩
    refine ⟨WL_cg g1 (Int.le_refl _) (fun i c => e i (by omega)) (fun _ _ _ => ⟨rfl, rfl⟩), g2, by rw [e _ (by omega)]; exact g3, by omega, by omega, by omega, m1, T1, FL_cg g7 (fun i _ c => e i (by omega))⟩
  · have : l = l' := by omega
    subst this
    omega
  · rcases h0 with z | ⟨z, z1, -, -⟩
    · have : l = l' := by omega
      subst this
      omega
    · have : l = l' + 1 := by omega
      subst this
      omega
/-- one place more at a row's level -/
theorem WC_row {pl pm lk lc : Int → Int} {l : Nat} {q T : Int} (h : WC pl lk lc (l + 1) q T) (hk : lk l < 3 ∨ 7 < lk l) (h1 : lk l = 1 → pl (lc l) = 0) (e1 : pm (lc l) = pl (lc l) + 1) (e : ∀ i, i ≠ lc l → pm i = pl i) : WC pm lk lc (l + 1) q (T + 1) := by
  rcases h with ⟨⟨⟨m, h1⟩, h2⟩, h3⟩ | ⟨l', n, e', g1, g2, g3, g4, g5, g6, g7⟩ | ⟨l', p, h0, g1, g2, g3, g4, g5, g6, g7⟩
  · obtain ⟨_, g2, _⟩ := h2
    omega
  · have : l = l' := by omega
    subst this
    rw [g3] at e e1 h1
    refine Or.inr (Or.inl ⟨l, n + 1, rfl, ?_, g2, g3, by rw [e _ (by omega)]; exact g4, by omega, by omega, fun z => by have := h1 z; omega⟩)
    rw [show T + 1 - (n + 1) = T - n by omega]
    exact WO_cg g1 (fun i c => e i (by omega)) (fun _ _ _ => ⟨rfl, rfl⟩)
  · rcases h0 with z | ⟨z, z1, z2, z3⟩
    · have : l = l' := by omega
      subst this
      omega
    · have : l = l' + 1 := by omega
      subst this
      rw [z2] at e e1
      have k0 : pm p = pl p := e p (by omega)
      have k1 : pm (p + 1) = pl (p + 1) := e _ (by omega)
      have hs : su_ pm (p + 2) (pl (p + 1)).toNat = su_ pl (p + 2) (pl (p + 1)).toNat + 1 := by
        have a : (pl (p + 1)) = (pl (p + 1) - 1) + 1 := by omega
        rw [a, su_i (by omega), su_i (by omega)]
        have : su_ pm (p + 2) (pl (p + 1) - 1).toNat = su_ pl (p + 2) (pl (p + 1) - 1).toNat := su_cg (fun i c d => e i (by omega))
        rw [this, show p + 2 + (pl (p + 1) - 1) = q - 1 by omega, e1]; omega
      refine Or.inr (Or.inr ⟨l', p, Or.inr ⟨rfl, z1, z2, by omega⟩, g1, g2, by omega, by omega, by omega, fun k a b => ?_, ?_⟩)
      · by_cases y : p + 2 + k = q - 1
        · rw [y, e1]; have := g6 k a (by omega); rw [y] at this; omega
        · rw [e _ y]; exact g6 k a (by omega)
      · rw [k1, hs, show T + 1 - (su_ pl (p + 2) (pl (p + 1)).toNat + 1) = T - su_ pl (p + 2) (pl (p + 1)).toNat by omega]
        obtain ⟨⟨m, f⟩, -⟩ := id g7
        have f2 := FL_le f
        exact WO_cg g7 (fun i c => e i (by omega)) (fun _ _ _ => ⟨rfl, rfl⟩)
/-- a ring is begun and opened -/
theorem WC_ring {pl pm pn lk lc lk' lc' : Int → Int} {l : Nat} {q T : Int} (h : WC pl lk lc (l + 1) q T) (hk : lk l = 3) (e1 : pm (lc l) = pl (lc l) + 1) (e : ∀ i, i ≠ lc l → pm i = pl i) (f1 : pn q = 0) (f : ∀ i, i ≠ q → pn i = pm i) (k1 : lk' (l + 1 : Nat) = 8) (k2 : lc' (l + 1 : Nat) = q) (k : ∀ j : Int, j ≠ (l + 1 : Nat) → lk' j = lk j ∧ lc' j = lc j) : WC pn lk' lc' (l + 2) (q + 1) T := by
  rcases h with ⟨⟨⟨m, h1⟩, h2⟩, h3⟩ | ⟨l', n, e', g1, g2, _⟩ | ⟨l', p, h0, g1, g2, g3, g4, g5, g6, g7⟩
  · obtain ⟨_, g2, _⟩ := h2
    omega
  · have : l = l' := by omega
    subst this
    omega
  · rcases h0 with z | ⟨z, z1, -, -⟩
    · have : l = l' := by omega
      subst this
      rw [g2] at e e1
      have a1 : pn p = 3 := by rw [f _ (by omega), e _ (by omega)]; exact g3
      have a2 : pn (p + 1) = pl (p + 1) + 1 := by rw [f _ (by omega), e1]
      have a3 : ∀ i, i < q → i ≠ p + 1 → pn i = pl i := fun i c d => by rw [f _ (by omega), e _ d]
      have hs : su_ pn (p + 2) (pl (p + 1) + 1).toNat = su_ pl (p + 2) (pl (p + 1)).toNat := by
        rw [su_i g5, show p + 2 + pl (p + 1) = q by omega, f1, Int.add_zero]
        exact su_cg (fun i c d => a3 i (by omega) (by omega))
      obtain ⟨b1, b2⟩ := k l (by omega)
      refine Or.inr (Or.inr ⟨l, p, Or.inr ⟨rfl, k1, by rw [k2]; omega, by omega⟩, by rw [b1]; exact g1, by rw [b2]; exact g2, a1, by omega, by omega, fun j c d => ?_, ?_⟩)
      · by_cases y : p + 2 + j = q
        · rw [y, f1]; exact Int.le_refl _
        · rw [a3 _ (by omega) (by omega)]; exact g6 j c (by omega)
      · rw [a2, hs]
        exact WO_cg g7 (fun i c => a3 i (by omega) (by omega)) (fun j c d => k j (by omega))
    · have : l = l' + 1 := by omega
      subst this
      omega
end WRD
section WRE
def WCs (σ : SG) (s : Nat) (T : Int) : Prop := WC (σ (kA_plan s)) (σ kW_levelKind) (σ kW_levelCounter) (σ kW_depth 0).toNat (σ (kA_plans s) 0) T
def WOs (σ : SG) (s : Nat) (p T : Int) : Prop := WO (σ (kA_plan s)) (σ kW_levelKind) (σ kW_levelCounter) (σ kW_depth 0).toNat p T
def WIs (σ : SG) (s : Nat) : Prop := WCs σ s (σ (kA_points s) 0) ∧ (0 < σ kW_depth 0 → σ kW_levelKind (σ kW_depth 0 - 1) = 1 → σ (kA_plan s) (σ kW_levelCounter (σ kW_depth 0 - 1)) = 0)
/-- a shape of kind k was begun, its count is 0 -/
def WNs (σ : SG) (s : Nat) (k : Int) : Prop := WOs σ s (σ (kA_plans s) 0 - 2) (σ (kA_points s) 0) ∧ σ (kA_plan s) (σ (kA_plans s) 0 - 2) = k ∧ σ (kA_plan s) (σ (kA_plans s) 0 - 1) = 0 ∧ 1 ≤ k ∧ k ≤ 7
/-- a ring is counted, and not yet begun -/
def WGs (σ : SG) (s : Nat) : Prop := ∃ (pl : Int → Int) (l : Nat), WC pl (σ kW_levelKind) (σ kW_levelCounter) (l + 1) (σ (kA_plans s) 0) (σ (kA_points s) 0) ∧ σ kW_depth 0 = l + 1 ∧ σ kW_levelKind l = 3 ∧ σ (kA_plan s) (σ kW_levelCounter l) = pl (σ kW_levelCounter l) + 1 ∧ ∀ i, i ≠ σ kW_levelCounter l → σ (kA_plan s) i = pl i
def LVw (σ τ : SG) : Prop := τ kW_levelKind = σ kW_levelKind ∧ τ kW_levelCounter = σ kW_levelCounter ∧ τ kW_depth 0 = σ kW_depth 0
theorem LVw_f {ms ss : List Nat} {σ τ : SG} (f : FC ms ss σ τ) (h : (!(ms.contains kW_levelKind) && !(ms.contains kW_levelCounter) && !(ms.contains kW_depth)) = true) : LVw σ τ := by
  rw [Bool.and_eq_true, Bool.and_eq_true] at h
  exact ⟨funext fun i => FC_at f (c := kW_levelKind) (by rw [h.1.1]; decide) i, funext fun i => FC_at f (c := kW_levelCounter) (by rw [h.1.2]; decide) i, FC_at f (c := kW_depth) (by rw [h.2]; decide) 0⟩
theorem LVw_tr {σ τ υ : SG} (a : LVw σ τ) (b : LVw τ υ) : LVw σ υ := ⟨b.1.trans a.1, b.2.1.trans a.2.1, b.2.2.trans a.2.2⟩
theorem WCs_cg {σ τ : SG} {s : Nat} {T : Int} (g : WCs σ s T) (hL : LVw σ τ) (h1 : τ (kA_plan s) = σ (kA_plan s)) (h2 : τ (kA_plans s) = σ (kA_plans s)) : WCs τ s T := by
  unfold WCs
  rw [hL.1, hL.2.1, hL.2.2, h1, h2]; exact g
theorem WCs_f {ms : List Nat} {σ τ : SG} {s : Nat} {T : Int} (g : WCs σ s T) (f : FC ms [] σ τ) (hs : isS s) (h : (!(ms.contains kW_levelKind) && !(ms.contains kW_levelCounter) && !(ms.contains kW_depth)) = true) : WCs τ s T := WCs_cg g (LVw_f f h) (FC_plan f hs (NS_0 _)) (FC_plans f hs (NS_0 _))
theorem WOs_cg {σ τ : SG} {s : Nat} {p T : Int} (g : WOs σ s p T) (hL : LVw σ τ) (h1 : ∀ i, i < p → τ (kA_plan s) i = σ (kA_plan s) i) : WOs τ s p T := by
  unfold WOs
  rw [hL.1, hL.2.1, hL.2.2]
  exact WO_cg g h1 (fun _ _ _ => ⟨rfl, rfl⟩)
theorem WNs_f {ms : List Nat} {σ τ : SG} {s : Nat} {k : Int} (g : WNs σ s k) (f : FC ms [] σ τ) (hs : isS s) (h : (!(ms.contains kW_levelKind) && !(ms.contains kW_levelCounter) && !(ms.contains kW_depth)) = true) : WNs τ s k := by
  unfold WNs
  rw [FC_plan f hs (NS_0 _), FC_plans f hs (NS_0 _), FC_points f hs (NS_0 _)]
  exact ⟨WOs_cg g.1 (LVw_f f h) (fun i _ => by rw [FC_plan f hs (NS_0 _)]), g.2⟩
theorem WGs_f {ms : List Nat} {σ τ : SG} {s : Nat} (g : WGs σ s) (f : FC ms [] σ τ) (hs : isS s) (h : (!(ms.contains kW_levelKind) && !(ms.contains kW_levelCounter) && !(ms.contains kW_depth)) = true) : WGs τ s := by
  obtain ⟨e1, e2, e3⟩ := LVw_f f h
  unfold WGs
  rw [FC_plan f hs (NS_0 _), FC_plans f hs (NS_0 _), FC_points f hs (NS_0 _), e1, e2, e3]
  exact g
theorem WIs_f {ms : List Nat} {σ τ : SG} {s : Nat} (g : WIs σ s) (f : FC ms [] σ τ) (hs : isS s) (h : (!(ms.contains kW_levelKind) && !(ms.contains kW_levelCounter) && !(ms.contains kW_depth)) = true) : WIs τ s := by
  obtain ⟨e1, e2, e3⟩ := LVw_f f h
  unfold WIs
  rw [FC_plan f hs (NS_0 _), FC_points f hs (NS_0 _), e1, e2, e3]
  exact ⟨WCs_f g.1 f hs h, g.2⟩
theorem WIs_close {σ : SG} {s : Nat} {p T0 : Int} (h : WOs σ s p T0) (ho : eO (σ (kA_plan s)) p) (hq : σ (kA_plans s) 0 = p + eL (σ (kA_plan s)) p) (hT : σ (kA_points s) 0 = T0 + eP (σ (kA_plan s)) p) : WIs σ s := by
  refine ⟨WC_close h ho hq hT, fun hd hk => ?_⟩
  obtain ⟨-, g⟩ := h
  rw [show (σ kW_depth 0).toNat = (σ kW_depth 0 - 1).toNat + 1 by omega] at g
  obtain ⟨-, g2, -⟩ := g
  rw [Int.toNat_of_nonneg (by omega)] at g2
  omega
theorem WNs_close {σ : SG} {s : Nat} {k : Int} (h : WNs σ s k) : WIs σ s := by
  obtain ⟨h1, h2, h3, h4, h5⟩ := h
  have e : σ (kA_plans s) 0 - 2 + 1 = σ (kA_plans s) 0 - 1 := by omega
  have ho : eO (σ (kA_plan s)) (σ (kA_plans s) 0 - 2) := ⟨by omega, by omega, by rw [e]; omega, fun _ => by rw [e]; omega, fun _ k a b => by rw [e] at b; omega⟩
  refine WIs_close h1 ho ?_ ?_
  · unfold eL; rw [e, h3]; split <;> omega
  · unfold eP; rw [e, h3]
    split
    · omega
    · split
      · show _ = _ + (0 : Int); omega
      · omega
/-- a place was read as a part -/
theorem WNs_one {σ β τ : SG} {s : Nat} (h : WNs σ s 1) (hL : LVw σ τ) (e : β = sg σ (kA_plan s) (σ (kA_plans s) 0 - 1) 1) (h1 : τ (kA_plans s) = β (kA_plans s) ∧ τ (kA_plan s) = β (kA_plan s)) (h2 : τ (kA_points s) 0 = β (kA_points s) 0 + 1) : WIs τ s := by
  obtain ⟨g1, g2, g3, g4, g5⟩ := h
  have p1 : ∀ i, τ (kA_plan s) i = if i = σ (kA_plans s) 0 - 1 then 1 else σ (kA_plan s) i := fun i => by
    rw [h1.2, e]
    by_cases z : i = σ (kA_plans s) 0 - 1
    · rw [if_pos z, z, sg_at]
    · rw [if_neg z, sg_ni z]
  have p2 : τ (kA_plans s) 0 = σ (kA_plans s) 0 := by rw [h1.1, e, sg_nc (ncA_plans_plan _)]
  have p3 : τ (kA_points s) 0 = σ (kA_points s) 0 + 1 := by rw [h2, e, sg_nc (ncA_points_plan _)]
  have e9 : σ (kA_plans s) 0 - 2 + 1 = σ (kA_plans s) 0 - 1 := by omega
  have k1 : τ (kA_plan s) (σ (kA_plans s) 0 - 2) = 1 := by rw [p1, if_neg (by omega)]; exact g2
  have k2 : τ (kA_plan s) (σ (kA_plans s) 0 - 2 + 1) = 1 := by rw [p1, if_pos e9]
  have ho : eO (τ (kA_plan s)) (σ (kA_plans s) 0 - 2) := ⟨by omega, by omega, by omega, fun _ => by omega, fun z => by omega⟩
  refine WIs_close (WOs_cg g1 hL (fun i hi => by rw [p1, if_neg (by omega)])) ho ?_ ?_
  · unfold eL; rw [if_neg (by omega), p2]; exact (Int.sub_add_cancel _ _).symm
  · unfold eP; rw [if_pos (by omega), p3, k2]
/-- a level was opened -/
def OLs (σ τ : SG) (s : Nat) (k : Int) : Prop := τ kW_depth 0 = σ kW_depth 0 + 1 ∧ τ kW_levelKind (σ kW_depth 0) = k ∧ τ kW_levelCounter (σ kW_depth 0) = σ (kA_plans s) 0 - 1 ∧ ∀ i, i ≠ σ kW_depth 0 → τ kW_levelKind i = σ kW_levelKind i ∧ τ kW_levelCounter i = σ kW_levelCounter i
theorem WNs_open {ms : List Nat} {σ τ : SG} {s : Nat} {k : Int} (hσ : II σ) (hs : isS s) (h : WNs σ s k) (f : FC ms [] σ τ) (o : OLs σ τ s k) : WIs τ s := by
  obtain ⟨h1, h2, h3, h4, h5⟩ := h
  obtain ⟨o1, o2, o3, o4⟩ := o
  have hd := ii_kW_depth hσ 0
  have e : σ (kA_plans s) 0 - 2 + 1 = σ (kA_plans s) 0 - 1 := by omega
  have z : (((σ kW_depth 0).toNat : Nat) : Int) = σ kW_depth 0 := Int.toNat_of_nonneg hd.1
  unfold WIs WCs
  rw [FC_plan f hs (NS_0 _), FC_plans f hs (NS_0 _), FC_points f hs (NS_0 _), o1, show (σ kW_depth 0 + 1).toNat = (σ kW_depth 0).toNat + 1 by omega, show σ kW_depth 0 + 1 - 1 = σ kW_depth 0 by omega, o2, o3]
  refine ⟨?_, fun _ _ => h3⟩
  have w := WC_open (lk := τ kW_levelKind) (lc := τ kW_levelCounter) (WO_cg h1 (fun _ _ => rfl) (fun j a b => o4 j (by omega))) ⟨h4, h5⟩ h2 (by rw [e]; exact h3) (by rw [z]; exact o2) (by rw [z, o3]; omega)
  rw [show σ (kA_plans s) 0 - 2 + 2 = σ (kA_plans s) 0 by omega] at w
  exact w
theorem WNs_add {σ τ : SG} {s : Nat} {k : Int} (h : WOs σ s (σ (kA_plans s) 0) (σ (kA_points s) 0)) (hk : 1 ≤ k ∧ k ≤ 7) (f : FC [] [s] σ τ) (h1 : τ (kA_plans s) 0 = σ (kA_plans s) 0 + 2 ∧ τ (kA_plan s) (σ (kA_plans s) 0) = k ∧ τ (kA_plan s) (σ (kA_plans s) 0 + 1) = 0 ∧ (∀ i, i ≠ σ (kA_plans s) 0 → i ≠ σ (kA_plans s) 0 + 1 → τ (kA_plan s) i = σ (kA_plan s) i)) (h2 : τ (kA_points s) = σ (kA_points s)) : WNs τ s k := by
  obtain ⟨a1, a2, a3, a4⟩ := h1
  unfold WNs
  rw [show τ (kA_plans s) 0 - 2 = σ (kA_plans s) 0 by omega, show τ (kA_plans s) 0 - 1 = σ (kA_plans s) 0 + 1 by omega, h2]
  exact ⟨WOs_cg h (LVw_f f (by decide)) (fun i hi => a4 i (by omega) (by omega)), a2, a3, hk⟩
theorem WGs_go {ms : List Nat} {σ α τ : SG} {s : Nat} (hα : II α) (hs : isS s) (h : WGs σ s) (f0 : FC [] [s] σ α) (h1 : α (kA_plans s) 0 = σ (kA_plans s) 0 + 1 ∧ α (kA_plan s) (σ (kA_plans s) 0) = 0 ∧ (∀ i, i ≠ σ (kA_plans s) 0 → α (kA_plan s) i = σ (kA_plan s) i)) (h2 : α (kA_points s) = σ (kA_points s)) (f : FC ms [] α τ) (o : OLs α τ s 8) : WIs τ s := by
  obtain ⟨pl, l, g1, g2, g3, g4, g5⟩ := h
  obtain ⟨o1, o2, o3, o4⟩ := o
  obtain ⟨b1, b2, b3⟩ := h1
  obtain ⟨e1, e2, e3⟩ := LVw_f f0 (by decide)
  rw [e3, g2] at o1 o2 o3 o4
  unfold WIs WCs
  rw [FC_plan f hs (NS_0 _), FC_plans f hs (NS_0 _), FC_points f hs (NS_0 _), h2, o1, b1, show ((l : Int) + 1 + 1).toNat = l + 2 by omega, show (l : Int) + 1 + 1 - 1 = l + 1 by omega, o2]
  refine ⟨WC_ring g1 g3 g4 g5 b2 b3 (by push_cast; exact o2) (by push_cast; rw [o3]; omega) (fun j hj => ?_), fun _ q => by omega⟩
  have := o4 j (by push_cast at hj; exact hj)
  rw [e1, e2] at this
  exact this
theorem IT_b {σ : SG} {s : Nat} {T : Int} (h : WCs σ s T) (hd : 0 < σ kW_depth 0) : WC (σ (kA_plan s)) (σ kW_levelKind) (σ kW_levelCounter) ((σ kW_depth 0 - 1).toNat + 1) (σ (kA_plans s) 0) T ∧ (((σ kW_depth 0 - 1).toNat : Nat) : Int) = σ kW_depth 0 - 1 ∧ (σ kW_depth 0).toNat = (σ kW_depth 0 - 1).toNat + 1 := by
  have e : (σ kW_depth 0).toNat = (σ kW_depth 0 - 1).toNat + 1 := by omega
  unfold WCs at h
  rw [e] at h
  exact ⟨h, Int.toNat_of_nonneg (by omega), e⟩
theorem IT_em {σ τ : SG} {s : Nat} (hσ : II σ) (hs : isS s) (h : WIs σ s) (hd : 0 < σ kW_depth 0) (hk : 4 ≤ σ kW_levelKind (σ kW_depth 0 - 1) ∧ σ kW_levelKind (σ kW_depth 0 - 1) ≤ 7) (e : τ = sg σ (kA_plan s) (σ kW_levelCounter (σ kW_depth 0 - 1)) (σ (kA_plan s) (σ kW_levelCounter (σ kW_depth 0 - 1)) + 1)) : WOs τ s (τ (kA_plans s) 0) (τ (kA_points s) 0) := by
  obtain ⟨g, z, z2⟩ := IT_b h.1 hd
  have f : FC [] [s] σ τ := FS_plan e hs
  obtain ⟨e1, e2, e3⟩ := LVw_f f (by decide)
  have hq := iiA_plans hσ hs 0
  have p2 : τ (kA_plans s) 0 = σ (kA_plans s) 0 := by rw [e, sg_nc (ncA_plans_plan _)]
  have p3 : τ (kA_points s) 0 = σ (kA_points s) 0 := by rw [e, sg_nc (ncA_points_plan _)]
  unfold WOs
  rw [e1, e2, e3, p2, p3, z2]
  exact WC_inc g hq.2 (by rw [z]; exact hk) (by rw [z, e, sg_at]) (fun i hi => by rw [z] at hi; rw [e, sg_ni hi])
theorem IT_row {σ τ : SG} {s : Nat} (hs : isS s) (h : WIs σ s) (hd : 0 < σ kW_depth 0) (hk : σ kW_levelKind (σ kW_depth 0 - 1) < 3 ∨ 7 < σ kW_levelKind (σ kW_depth 0 - 1)) (e : τ = sg σ (kA_plan s) (σ kW_levelCounter (σ kW_depth 0 - 1)) (σ (kA_plan s) (σ kW_levelCounter (σ kW_depth 0 - 1)) + 1)) : WCs τ s (τ (kA_points s) 0 + 1) := by
  obtain ⟨g, z, z2⟩ := IT_b h.1 hd
  have f : FC [] [s] σ τ := FS_plan e hs
  obtain ⟨e1, e2, e3⟩ := LVw_f f (by decide)
  have p2 : τ (kA_plans s) 0 = σ (kA_plans s) 0 := by rw [e, sg_nc (ncA_plans_plan _)]
  have p3 : τ (kA_points s) 0 = σ (kA_points s) 0 := by rw [e, sg_nc (ncA_points_plan _)]
  unfold WCs
  rw [e1, e2, e3, p2, p3, z2]
  exact WC_row g (by rw [z]; exact hk) (fun q => by rw [z] at q ⊢; exact h.2 hd q) (by rw [z, e, sg_at]) (fun i hi => by rw [z] at hi; rw [e, sg_ni hi])
theorem IT_ring {σ τ : SG} {s : Nat} (hs : isS s) (h : WIs σ s) (hd : 0 < σ kW_depth 0) (hk : σ kW_levelKind (σ kW_depth 0 - 1) = 3) (e : τ = sg σ (kA_plan s) (σ kW_levelCounter (σ kW_depth 0 - 1)) (σ (kA_plan s) (σ kW_levelCounter (σ kW_depth 0 - 1)) + 1)) : WGs τ s := by
  obtain ⟨g, z, z2⟩ := IT_b h.1 hd
  have f : FC [] [s] σ τ := FS_plan e hs
  obtain ⟨e1, e2, e3⟩ := LVw_f f (by decide)
  have p2 : τ (kA_plans s) 0 = σ (kA_plans s) 0 := by rw [e, sg_nc (ncA_plans_plan _)]
  have p3 : τ (kA_points s) 0 = σ (kA_points s) 0 := by rw [e, sg_nc (ncA_points_plan _)]
  refine ⟨σ (kA_plan s), (σ kW_depth 0 - 1).toNat, ?_, by rw [e3, z]; omega, by rw [e1, z]; exact hk, by rw [e2, z, e, sg_at], fun i hi => by rw [e2, z] at hi; rw [e, sg_ni hi]⟩
  rw [e1, e2, p2, p3]; exact g
theorem WIs_0 {σ : SG} {s : Nat} {T : Int} (hT : σ (kA_points s) 0 = T) (h : WCs σ s T) (hd : σ kW_depth 0 ≤ 0) : WIs σ s := ⟨by rw [hT]; exact h, fun q => by omega⟩
theorem WIs_n {σ : SG} {s : Nat} (h : WCs σ s (σ (kA_points s) 0)) (hk : ¬ σ kW_levelKind (σ kW_depth 0 - 1) = 1) : WIs σ s := ⟨h, fun _ q => absurd q hk⟩
theorem WCs_pop {ms : List Nat} {σ τ : SG} {s : Nat} {T : Int} (hσ : II σ) (hs : isS s) (h : WCs σ s T) (hT : T ≤ 2048) (f : FC ms [] σ τ) (hm : (!(ms.contains kW_levelKind) && !(ms.contains kW_levelCounter)) = true) (hd : 0 < σ kW_depth 0) (e : τ kW_depth 0 = σ kW_depth 0 - 1) : WCs τ s T := by
  obtain ⟨g, z, z2⟩ := IT_b h hd
  rw [Bool.and_eq_true] at hm
  have hq := iiA_plans hσ hs 0
  unfold WCs
  rw [FC_plan f hs (NS_0 _), FC_plans f hs (NS_0 _), e, show τ kW_levelKind = σ kW_levelKind from funext fun i => FC_at f (c := kW_levelKind) (by rw [hm.1]; decide) i, show τ kW_levelCounter = σ kW_levelCounter from funext fun i => FC_at f (c := kW_levelCounter) (by rw [hm.2]; decide) i]
  exact WC_pop g hq.2 hT
theorem WOs_0 {σ : SG} {s : Nat} (h1 : σ kW_depth 0 = 0) (h2 : σ (kA_plans s) 0 = 0) (h3 : σ (kA_points s) 0 = 0) : WOs σ s (σ (kA_plans s) 0) (σ (kA_points s) 0) := by
  unfold WOs
  rw [h1, h2, h3]
  exact ⟨⟨0, rfl, rfl⟩, trivial⟩
theorem WIs_end {σ : SG} {s : Nat} (hσ : II σ) (h : WIs σ s) (hd : σ kW_depth 0 ≤ 0) : SHa σ s := by
  have hd0 := ii_kW_depth hσ 0
  obtain ⟨g, -⟩ := h
  unfold WCs at g
  rw [show (σ kW_depth 0).toNat = 0 by omega] at g
  rcases g with ⟨⟨⟨m, h1⟩, -⟩, -⟩ | ⟨l, n, e, _⟩ | ⟨l, p, e, _⟩
  · by_cases z : 2 ≤ σ (kA_plans s) 0
    · exact Or.inr ⟨z, m, h1⟩
    · have b := FL_le h1
      have : m = 0 := by omega
      subst this
      obtain ⟨c1, c2⟩ := h1
      exact Or.inl ⟨c1.symm, c2⟩
  · omega
  · omega
/-- the byte at a place of the text, or -1 -/
noncomputable def sgA (σ : SG) (i : Int) : Int := if (0 ≤ w32 i) ∧ (w32 i < w32 (σ kW_length 0)) then q_ian (w8 (σ kQ_tape (w32 i))) 255 else -1
theorem sgA_in {σ : SG} {i : Int} (hσ : II σ) (h : 0 ≤ sgA σ i) : 0 ≤ w32 i ∧ w32 i < σ kW_length 0 := by
  have hl := ii_kW_length hσ 0
  unfold sgA at h
  rw [w32_of (x := σ kW_length 0) (by omega) (by omega)] at h
  split at h
  · assumption
  · omega
theorem sgA_f {ms ss : List Nat} {σ τ : SG} (f : FC ms ss σ τ) (h : (!(ms.contains kW_length) && !(ms.contains kQ_tape)) = true) (i : Int) : sgA τ i = sgA σ i := by
  rw [Bool.and_eq_true] at h
  unfold sgA
  rw [FC_at f (c := kW_length) (by rw [h.1]; decide) 0, FC_at f (c := kQ_tape) (by rw [h.2]; decide)]
/-- n digits from a on -/
def DGs (σ : SG) (a n : Int) : Prop := ∀ k, 0 ≤ k → k < n → 48 ≤ sgA σ (a + k) ∧ sgA σ (a + k) ≤ 57
end WRE
