section SHL
/-- bytes: levels not yet shut, where the content of the l-th begins, and the points ahead of it -/
def BPn (pl lf pk : Int → Int) : Nat → Int → Int → Prop
  | 0, p, T => p = 65536 ∧ T = 0
  | l + 1, p, T => ∃ (q r T0 t : Int) (c f m : Nat), BPn pl lf pk l q T0 ∧ TU pl f (50 - l) c q r ∧ FL pl m q r t ∧ T = T0 + t ∧ (l = 0 → c = 0) ∧ (0 < l → pk ((l : Int) - 1) = 0 ∧ pl (q - 1) = (c : Nat) + 1 + lf ((l : Int) - 1)) ∧ ((pl r = 7 ∧ pk l = 0) ∨ (4 ≤ pl r ∧ pl r ≤ 6 ∧ pk l = pl r - 3)) ∧ p = r + 2
theorem BPn_le {pl lf pk : Int → Int} : ∀ {l : Nat} {p T : Int}, BPn pl lf pk l p T → 65536 + 2 * l ≤ p ∧ 0 ≤ T
  | 0, p, T, h => by obtain ⟨a, b⟩ := h; omega
  | l + 1, p, T, h => by
    obtain ⟨q, r, T0, t, c, f, m, h1, h2, h8, h9, h3, h4, h5, h7⟩ := h
    have a := BPn_le h1
    have b := TU_le h2
    have d := FL_le h8
    omega
theorem BPn_cg {pl pm lf lg pk pn : Int → Int} : ∀ {l : Nat} {p T : Int}, BPn pl lf pk l p T → (∀ i, i < p → pm i = pl i) → (∀ j, 0 ≤ j → j + 1 < (l : Int) → lg j = lf j) → (∀ j, 0 ≤ j → j < (l : Int) → pn j = pk j) → BPn pm lg pn l p T
  | 0, p, T, h, _, _, _ => h
  | l + 1, p, T, h, hc, hl, hk => by
    obtain ⟨q, r, T0, t, c, f, m, h1, h2, h8, h9, h3, h4, h5, h7⟩ := h
    have a := BPn_le h1
    have b := TU_le h2
    refine ⟨q, r, T0, t, c, f, m, BPn_cg h1 (fun i hi => hc i (by omega)) (fun j j0 j1 => hl j j0 (by omega)) (fun j j0 j1 => hk j j0 (by omega)), TU_cg h2 (fun i i0 i1 => hc i (by omega)), FL_cg h8 (fun i i0 i1 => hc i (by omega)), h9, h3, fun q0 => ?_, ?_, h7⟩
    · rw [hk _ (by omega) (by omega), hc _ (by omega), hl _ (by omega) (by omega)]
      exact h4 q0
    · rw [hc r (by omega), hk l (by omega) (by omega)]; exact h5
/-- bytes, between shapes; d: how many are still to come at the top level beside those that are left (0 or 1) -/
def WB (σ : SG) (fin : Bool) (d : Int) : Prop := ∃ (p T : Int) (c f m : Nat), BPn (σ kR_plan) (σ kR_left) (σ kR_partKind) (σ kR_levels 0).toNat p T ∧ FL (σ kR_plan) m p (65536 + σ kR_planMany 32) (σ kR_pointMany 32 - T) ∧ (σ kR_levels 0 = 0 → TU (σ kR_plan) f 50 c p (65536 + σ kR_planMany 32) ∧ c = if fin = true then 1 else 0) ∧ (0 < σ kR_levels 0 → ((σ kR_partKind (σ kR_levels 0 - 1) = 0 ∧ TU (σ kR_plan) f (50 - (σ kR_levels 0).toNat) c p (65536 + σ kR_planMany 32)) ∨ (1 ≤ σ kR_partKind (σ kR_levels 0 - 1) ∧ σ kR_partKind (σ kR_levels 0 - 1) ≤ 3 ∧ PT (σ kR_plan) (σ kR_partKind (σ kR_levels 0 - 1)) c p (65536 + σ kR_planMany 32))) ∧ σ kR_plan (p - 1) = (c : Nat) + d + σ kR_left (σ kR_levels 0 - 1)) ∧ (σ kR_open 0 = if 0 < σ kR_levels 0 ∧ ¬ σ kR_partKind (σ kR_levels 0 - 1) = 0 then σ kR_levels 0 - 1 else σ kR_levels 0) ∧ ∀ j, 0 ≤ j → j < σ kR_levels 0 → 0 ≤ σ kR_left j
theorem WB_le {σ : SG} {fin : Bool} {d : Int} (h : WB σ fin d) (h0 : 0 ≤ σ kR_levels 0) : 2 * σ kR_levels 0 ≤ σ kR_planMany 32 := by
  obtain ⟨p, T, c, f, m, h1, h2, h3, h4, h5, h6⟩ := h
  have a := BPn_le h1
  have b := (FL_le h2).1
  omega
theorem WB_0 {σ : SG} (h1 : σ kR_levels 0 = 0) (h2 : σ kR_planMany 32 = 0) (h3 : σ kR_pointMany 32 = 0) (h4 : σ kR_open 0 = 0) : WB σ false 0 := by
  refine ⟨65536, 0, 0, 0, 0, ?_, ?_, fun _ => ⟨?_, rfl⟩, fun h => by omega, ?_, fun j j0 j1 => by omega⟩
  · rw [h1]; exact ⟨rfl, rfl⟩
  · rw [h2, h3]; exact ⟨rfl, rfl⟩
  · rw [h2]; exact ⟨rfl, rfl⟩
  · rw [h1, h4, if_neg (by omega)]
/-- what the next shape must be -/
def wn_ (σ : SG) : Int := if 0 < σ kR_levels 0 then σ kR_partKind (σ kR_levels 0 - 1) else 0
/-- a shape was read: whole, or its parts are to come -/
def SBk (σ τ : SG) (w : Int) : Prop := (τ kR_levels 0 = σ kR_levels 0 ∧ τ kR_open 0 = σ kR_open 0 ∧ (∀ j, τ kR_left j = σ kR_left j) ∧ (∀ j, τ kR_partKind j = σ kR_partKind j) ∧ ∃ k, 1 ≤ k ∧ k ≤ 3 ∧ (w ≠ 0 → k = w) ∧ ENt σ τ (65536 + σ kR_planMany 32) k) ∨ (w = 0 ∧ τ kR_levels 0 = σ kR_levels 0 + 1 ∧ (∀ j, j ≠ σ kR_levels 0 → τ kR_left j = σ kR_left j ∧ τ kR_partKind j = σ kR_partKind j) ∧ τ kR_planMany 32 = σ kR_planMany 32 + 2 ∧ τ kR_pointMany 32 = σ kR_pointMany 32 ∧ (τ kR_plan (65536 + σ kR_planMany 32 + 1) = τ kR_left (σ kR_levels 0) ∧ 0 ≤ τ kR_left (σ kR_levels 0)) ∧ (∀ i, i < 65536 + σ kR_planMany 32 → τ kR_plan i = σ kR_plan i) ∧ ((τ kR_plan (65536 + σ kR_planMany 32) = 7 ∧ τ kR_partKind (σ kR_levels 0) = 0 ∧ τ kR_open 0 = σ kR_open 0 + 1 ∧ σ kR_open 0 < 50) ∨ (4 ≤ τ kR_plan (65536 + σ kR_planMany 32) ∧ τ kR_plan (65536 + σ kR_planMany 32) ≤ 6 ∧ τ kR_partKind (σ kR_levels 0) = τ kR_plan (65536 + σ kR_planMany 32) - 3 ∧ τ kR_open 0 = σ kR_open 0)))
theorem WB_go {σ τ : SG} {d : Int} (h : WB σ false d) (hd : 0 < σ kR_levels 0 → d = 1) (h0 : 0 ≤ σ kR_levels 0) (ho : σ kR_open 0 ≤ 50) (s : SBk σ τ (wn_ σ)) : WB τ true 0 := by
  obtain ⟨p, T, c, f, m, h1, h2, h3, h4, h5, h6⟩ := h
  have a := BPn_le h1
  have b := (FL_le h2).1
  have e : (((σ kR_levels 0).toNat : Nat) : Int) = σ kR_levels 0 := by omega
  rcases s with ⟨s1, s2, s3, s4, k, k1, k3, kw, en⟩ | ⟨w0, s1, s3, s5, s6, ⟨s7, s7'⟩, s8, s9⟩
  · -- a whole one
    have hl : τ kR_left = σ kR_left := funext s3
    have hk : τ kR_partKind = σ kR_partKind := funext s4
    obtain ⟨x1, x2, x3, x4, x5⟩ := id en
    obtain ⟨⟨fu, u1⟩, ⟨mu, u2⟩, u3⟩ := UN_EN ⟨k1, k3⟩ en
    have s8 : ∀ i, i < 65536 + σ kR_planMany 32 → τ kR_plan i = σ kR_plan i := x5
    have fl := FL_add (FL_cg h2 (fun i i0 i1 => s8 i i1)) u2
    rw [show σ kR_pointMany 32 - T + (τ kR_pointMany 32 - σ kR_pointMany 32) = τ kR_pointMany 32 - T by omega] at fl
    refine ⟨p, T, c + 1, f + fu + 1, m + mu, ?_, fl, fun q => ?_, fun q => ?_, by rw [s1, s2, hk]; exact h5, fun j j0 j1 => by rw [s3]; exact h6 j j0 (by omega)⟩
    · rw [s1, hl, hk]
      exact BPn_cg h1 (fun i hi => s8 i (by omega)) (fun _ _ _ => rfl) (fun _ _ _ => rfl)
    · rw [s1] at q
      obtain ⟨g1, g2⟩ := h3 q
      exact ⟨TU_app (TU_cg g1 (fun i i0 i1 => s8 i i1)) (TU_up u1 (Nat.le_refl _) (Nat.zero_le _)), by rw [g2]; rfl⟩
    · rw [s1] at q ⊢
      rw [hl, hk]
      obtain ⟨g1, g2⟩ := h4 q
      have hd := hd q
      refine ⟨?_, by rw [s8 _ (by omega), g2]; omega⟩
      rcases g1 with ⟨v1, v2⟩ | ⟨v1, v2, v3⟩
      · exact Or.inl ⟨v1, TU_app (TU_cg v2 (fun i i0 i1 => s8 i i1)) (TU_up u1 (Nat.le_refl _) (Nat.zero_le _))⟩
      · have wk : wn_ σ = σ kR_partKind (σ kR_levels 0 - 1) := by unfold wn_; rw [if_pos q]
        have kk := kw (by rw [wk]; omega)
        rw [wk] at kk
        have := PT_app (PT_cg v3 (fun i i0 i1 => s8 i i1)) (by rw [x2]; exact kk) x1.2.2.1.1
        rw [x3] at this
        exact Or.inr ⟨v1, v2, this⟩
  · -- its parts are to come
    have et : (τ kR_levels 0).toNat = (σ kR_levels 0).toNat + 1 := by omega
    have top : σ kR_levels 0 - 1 = (((σ kR_levels 0).toNat : Nat) : Int) - 1 := by omega
    have pk0 : 0 < σ kR_levels 0 → σ kR_partKind (σ kR_levels 0 - 1) = 0 := fun q => by
      unfold wn_ at w0; rw [if_pos q] at w0; exact w0
    have op : σ kR_open 0 = σ kR_levels 0 := by
      rw [h5, if_neg (fun q => q.2 (pk0 q.1))]
    refine ⟨65536 + τ kR_planMany 32, σ kR_pointMany 32, 0, 0, 0, ?_, ?_, fun q => by omega, fun q => ?_, ?_, fun j j0 j1 => by
      by_cases y : j = σ kR_levels 0
      · rw [y]; exact s7'
      · rw [(s3 j y).1]; exact h6 j j0 (by omega)⟩
    · rw [et]
      have bc : BPn (τ kR_plan) (τ kR_left) (τ kR_partKind) (σ kR_levels 0).toNat p T := BPn_cg h1 (fun i hi => s8 i (by omega)) (fun j j0 j1 => (s3 j (by omega)).1) (fun j j0 j1 => (s3 j (by omega)).2)
      have fc := FL_cg h2 (pm := τ kR_plan) (fun i i0 i1 => s8 i i1)
      by_cases z : σ kR_levels 0 = 0
      · obtain ⟨g1, g2⟩ := h3 z
        have c0 : c = 0 := g2
        refine ⟨p, 65536 + σ kR_planMany 32, T, σ kR_pointMany 32 - T, c, f, m, bc, ?_, fc, by omega, fun _ => c0, fun q => by omega, ?_, by omega⟩
        · rw [z]; exact TU_cg g1 (fun i i0 i1 => s8 i i1)
        · rw [e]
          rcases s9 with ⟨y1, y2, _⟩ | ⟨y1, y2, y3, _⟩
          · exact Or.inl ⟨y1, y2⟩
          · exact Or.inr ⟨y1, y2, y3⟩
      · obtain ⟨g1, g2⟩ := h4 (by omega)
        have hd := hd (by omega)
        have pz := pk0 (by omega)
        rcases g1 with ⟨v1, v2⟩ | ⟨v1, v2, v3⟩
        · refine ⟨p, 65536 + σ kR_planMany 32, T, σ kR_pointMany 32 - T, c, f, m, bc, TU_cg v2 (fun i i0 i1 => s8 i i1), fc, by omega, fun q => by omega, fun q => ?_, ?_, by omega⟩
          · rw [← top, (s3 _ (by omega)).2, (s3 _ (by omega)).1, s8 _ (by omega)]
            exact ⟨v1, by rw [g2, hd]⟩
          · rw [e]
            rcases s9 with ⟨y1, y2, _⟩ | ⟨y1, y2, y3, _⟩
            · exact Or.inl ⟨y1, y2⟩
            · exact Or.inr ⟨y1, y2, y3⟩
        · omega
    · rw [s6]; exact ⟨rfl, by omega⟩
    · rw [s1, show σ kR_levels 0 + 1 - 1 = σ kR_levels 0 by omega]
      refine ⟨?_, ?_⟩
      · rcases s9 with ⟨y1, y2, _⟩ | ⟨y1, y2, y3, _⟩
        · exact Or.inl ⟨y2, rfl, rfl⟩
        · exact Or.inr ⟨by omega, by omega, rfl⟩
      · rw [s5, show 65536 + (σ kR_planMany 32 + 2) - 1 = 65536 + σ kR_planMany 32 + 1 by omega, s7]
        show _ = ((0 : Nat) : Int) + 0 + _
        omega
    · rw [s1, show σ kR_levels 0 + 1 - 1 = σ kR_levels 0 by omega]
      rcases s9 with ⟨y1, y2, y3, _⟩ | ⟨y1, y2, y3, y4⟩
      · rw [if_neg (fun q => q.2 y2), y3, op]
      · rw [if_pos ⟨by omega, by omega⟩, y4, op]
/-- a level is closed -/
theorem WB_close {σ τ : SG} {fin : Bool} (hb : σ kR_planMany 32 ≤ 2048) (ho : σ kR_open 0 ≤ 50) (h : WB σ fin 0) (h0 : 0 < σ kR_levels 0) (hz : σ kR_left (σ kR_levels 0 - 1) = 0) (s1 : τ kR_levels 0 = σ kR_levels 0 - 1) (s2 : τ kR_open 0 = if σ kR_partKind (σ kR_levels 0 - 1) = 0 then σ kR_open 0 - 1 else σ kR_open 0) (s3 : ∀ j, τ kR_left j = σ kR_left j) (s4 : ∀ j, τ kR_partKind j = σ kR_partKind j) (s5 : τ kR_planMany 32 = σ kR_planMany 32) (s6 : τ kR_pointMany 32 = σ kR_pointMany 32) (s7 : ∀ i, τ kR_plan i = σ kR_plan i) : WB τ true 0 := by
  obtain ⟨p, T, c, f, m, h1, h2, h3, h4, h5, h6⟩ := h
  have hl : τ kR_left = σ kR_left := funext s3
  have hk : τ kR_partKind = σ kR_partKind := funext s4
  have hp : τ kR_plan = σ kR_plan := funext s7
  obtain ⟨g1, g2⟩ := h4 h0
  obtain ⟨l, el⟩ : ∃ l, (σ kR_levels 0).toNat = l + 1 := ⟨(σ kR_levels 0).toNat - 1, by omega⟩
  rw [el] at h1 g1
  obtain ⟨q, r, T0, t, c0, f0, m0, k1, k2, k8, k9, k3, k4, k5, k7⟩ := h1
  have e : σ kR_levels 0 - 1 = (l : Int) := by omega
  have et : (τ kR_levels 0).toNat = l := by omega
  rw [e] at g1 g2 hz
  rw [hz] at g2
  have bq := BPn_le k1
  have bt := TU_le k2
  have bf := (FL_le h2).1
  have pn : σ kR_plan (r + 1) = (c : Nat) := by rw [show r + 1 = p - 1 by omega, g2]; omega
  have lc : p + 2 * c ≤ 65536 + σ kR_planMany 32 := by
    rcases g1 with ⟨_, v⟩ | ⟨_, _, v⟩
    · exact TU_le v
    · exact PT_le v
  have lv : l ≤ 50 := by
    by_cases z : σ kR_partKind (σ kR_levels 0 - 1) = 0
    · rw [if_neg (fun y => y.2 z)] at h5; omega
    · rw [if_pos ⟨h0, z⟩] at h5; omega
  have l7 := el_n (pl := σ kR_plan) (p := r) (by omega)
  have e7 := ep_g (pl := σ kR_plan) (p := r) (by omega)
  have fl : FL (σ kR_plan) (m + 1) r (65536 + σ kR_planMany 32) (σ kR_pointMany 32 - T) := by
    refine ⟨⟨by omega, by omega, by omega, fun z => by omega, fun z => by omega⟩, ?_⟩
    rw [l7, e7, ← k7, Int.sub_zero]; exact h2
  have fl2 := FL_add k8 fl
  rw [show t + (σ kR_pointMany 32 - T) = σ kR_pointMany 32 - T0 by omega] at fl2
  have u : TU (σ kR_plan) (f + 1) (50 - l) 1 r (65536 + σ kR_planMany 32) := by
    refine Or.inr ⟨by omega, 65536 + σ kR_planMany 32, ?_, ?_⟩
    · rcases k5 with ⟨y1, y2⟩ | ⟨y1, y2, y3⟩
      · rcases g1 with ⟨_, v⟩ | ⟨v, _⟩
        · refine Or.inr (Or.inr ⟨y1, by omega, ?_, ?_⟩)
          · rw [e, y2] at h5
            rw [if_neg (fun y => y.2 rfl)] at h5
            omega
          · rw [pn, ← k7]
            exact TU_up v (Nat.le_refl _) (by omega)
        · omega
      · rcases g1 with ⟨v, _⟩ | ⟨_, _, v⟩
        · omega
        · refine Or.inr (Or.inl ⟨y1, y2, by omega, ?_⟩)
          rw [pn, ← k7, ← y3]; exact v
    · cases f with
      | zero => exact ⟨rfl, rfl⟩
      | succ f => exact Or.inl ⟨rfl, rfl⟩
  unfold WB
  rw [hl, hk, hp, s5, s6, et]
  refine ⟨q, T0, c0 + 1, f0 + (f + 1) + 1, m0 + (m + 1), k1, fl2, fun z => ?_, fun z => ?_, ?_, fun j j0 j1 => h6 j j0 (by omega)⟩
  · have lz : l = 0 := by omega
    subst lz
    exact ⟨TU_app k2 u, by rw [k3 rfl]; rfl⟩
  · have lz : 0 < l := by omega
    obtain ⟨y1, y2⟩ := k4 lz
    rw [s1, show σ kR_levels 0 - 1 - 1 = (l : Int) - 1 by omega]
    exact ⟨Or.inl ⟨y1, TU_app k2 u⟩, by rw [y2]; omega⟩
  · rw [s2, s1]
    have y : ¬ (0 < σ kR_levels 0 - 1 ∧ ¬ σ kR_partKind (σ kR_levels 0 - 1 - 1) = 0) := fun z => by
      obtain ⟨y1, y2⟩ := k4 (by omega)
      rw [show σ kR_levels 0 - 1 - 1 = (l : Int) - 1 by omega] at z
      exact z.2 y1
    rw [if_neg y]
    by_cases z : σ kR_partKind (σ kR_levels 0 - 1) = 0
    · rw [if_pos z]
      rw [if_neg (fun y => y.2 z)] at h5; omega
    · rw [if_neg z]
      rw [if_pos ⟨h0, z⟩] at h5; omega
theorem WB_end {σ : SG} (h : WB σ true 0) (ho : σ kR_levels 0 = 0) : SHn σ := by
  obtain ⟨p, T, c, f, m, h1, h2, h3, h4, h5, h6⟩ := h
  obtain ⟨g1, g2⟩ := h3 ho
  rw [ho] at h1
  obtain ⟨rfl, rfl⟩ := h1
  have c1 : c = 1 := g2
  subst c1
  have l := TU_le g1
  exact ⟨by omega, ⟨m, by rw [Int.sub_zero] at h2; exact h2⟩, f, g1⟩
/-- one of what is left is begun -/
theorem WB_dec {σ τ : SG} {fin : Bool} (hn : σ kR_left (σ kR_levels 0 - 1) ≠ 0) (h : WB σ fin 0) (h0 : 0 < σ kR_levels 0) (e : τ = sg σ kR_left (σ kR_levels 0 - 1) (σ kR_left (σ kR_levels 0 - 1) - 1)) : WB τ false 1 := by
  obtain ⟨p, T, c, f, m, h1, h2, h3, h4, h5, h6⟩ := h
  have n1 : ∀ c i, c ≠ kR_left → τ c i = σ c i := fun c i hc => by rw [e]; exact sg_nc hc
  have f1 : τ kR_plan = σ kR_plan := funext (fun i => n1 _ i (by decide))
  have f2 : τ kR_partKind = σ kR_partKind := funext (fun i => n1 _ i (by decide))
  unfold WB
  rw [f1, f2, n1 kR_levels 0 (by decide), n1 kR_planMany 32 (by decide), n1 kR_pointMany 32 (by decide), n1 kR_open 0 (by decide)]
  obtain ⟨g1, g2⟩ := h4 h0
  refine ⟨p, T, c, f, m, ?_, h2, fun q => by omega, fun q => ⟨g1, ?_⟩, h5, fun j j0 j1 => ?_⟩
  · refine BPn_cg h1 (fun _ _ => rfl) (fun j j0 j1 => ?_) (fun _ _ _ => rfl)
    rw [e, sg_ni (by omega)]
  · rw [g2, e, sg_at]; omega
  · rw [e]
    by_cases y : j = σ kR_levels 0 - 1
    · rw [y, sg_at]
      have := h6 (σ kR_levels 0 - 1) (by omega) (by omega)
      omega
    · rw [sg_ni y]; exact h6 j j0 j1
theorem WB_lv {σ : SG} {fin : Bool} {d : Int} (h : WB σ fin d) : σ kR_levels 0 ≤ σ kR_open 0 + 1 := by
  obtain ⟨p, T, c, f, m, h1, h2, h3, h4, h5, h6⟩ := h
  split at h5 <;> omega
theorem WB_fin {σ : SG} {fin g : Bool} {d : Int} (h0 : 0 < σ kR_levels 0) (h : WB σ fin d) : WB σ g d := by
  obtain ⟨p, T, c, f, m, h1, h2, h3, h4, h5, h6⟩ := h
  exact ⟨p, T, c, f, m, h1, h2, fun q => by omega, h4, h5, h6⟩
theorem lus_nn {x s : Int} (h0 : 1 ≤ s) (h1 : s ≤ 63) : 0 ≤ q_lus x s ∧ q_lus x s ≤ 9223372036854775807 := by
  refine ⟨?_, (q_lus_rng x s).2⟩
  obtain ⟨n, rfl⟩ : ∃ n : Nat, s = n := ⟨s.toNat, by omega⟩
  have hn : n < 64 := by omega
  have e : ((Int32.ofInt (n : Int)).toInt64.toUInt64 &&& Int64.toUInt64 63) = UInt64.ofNat n := by
    have : ∀ m : Fin 64, ((Int32.ofInt ((m : Nat) : Int)).toInt64.toUInt64 &&& Int64.toUInt64 63) = UInt64.ofNat (m : Nat) := by decide +kernel
    exact this ⟨n, hn⟩
  unfold q_lus
  rw [e]
  show 0 ≤ ((Int64.ofInt x).toUInt64 >>> UInt64.ofNat n).toBitVec.toInt
  have hlt : ((Int64.ofInt x).toUInt64 >>> UInt64.ofNat n).toBitVec.toNat < 2 ^ 63 := by
    have h9 : ((Int64.ofInt x).toUInt64 >>> UInt64.ofNat n).toNat = (Int64.ofInt x).toUInt64.toNat >>> (n % 64) := by
      rw [UInt64.toNat_shiftRight]
      congr 1
      rw [UInt64.toNat_ofNat']
      omega
    show ((Int64.ofInt x).toUInt64 >>> UInt64.ofNat n).toNat < _
    rw [h9, Nat.mod_eq_of_lt hn, Nat.shiftRight_eq_div_pow]
    have hx : (Int64.ofInt x).toUInt64.toNat < 2 ^ 64 := UInt64.toNat_lt _
    have hp : 2 ≤ 2 ^ n := by
      obtain ⟨k, rfl⟩ : ∃ k, n = k + 1 := ⟨n - 1, by omega⟩
      have := Nat.one_le_two_pow (n := k)
      rw [Nat.pow_succ]; omega
    refine (Nat.div_lt_iff_lt_mul (by omega)).mpr ?_
    have := Nat.mul_le_mul_left (2 ^ 63) hp
    omega
  rw [BitVec.toInt_eq_toNat_of_lt (by omega)]
  omega
theorem lrm1000 {x : Int} (h : 0 ≤ x ∧ x ≤ 536870911) : 0 ≤ q_lrm x 1000 ∧ q_lrm x 1000 < 1000 := by
  unfold q_lrm
  rw [w64_of (x := x) (by omega) (by omega), w64_of (x := 1000) (by omega) (by omega), Int.tmod_eq_emod_of_nonneg h.1]
  omega
theorem iu_b {σ : SG} {b : Int} : 0 ≤ fR_inUnits σ b ∧ fR_inUnits σ b ≤ 4000000001 := by
  unfold fR_inUnits
  have k0 := q_lan_bd (q_lus b 52) (m := 2047) (by decide) (by decide)
  generalize ((if (w32 (q_lan (q_lus b 52) 2047)) = 0 then (q_lan b 4503599627370495) else (q_lor (q_lan b 4503599627370495) 4503599627370496)) * (σ kR_unit 0)) = m
  have hK : -1075 ≤ ((if (w32 (q_lan (q_lus b 52) 2047)) = 0 then 1 else (q_lan (q_lus b 52) 2047)) - 1075) ∧ ((if (w32 (q_lan (q_lus b 52) 2047)) = 0 then 1 else (q_lan (q_lus b 52) 2047)) - 1075) ≤ 2000 := by split <;> omega
  generalize ((if (w32 (q_lan (q_lus b 52) 2047)) = 0 then 1 else (q_lan (q_lus b 52) 2047)) - 1075) = K at *
  rw [w32_of (x := K) (by omega) (by omega)]
  split
  · omega
  · split
    · omega
    · split
      · omega
      · rename_i g1 g2 g3
        obtain ⟨v0, v1⟩ := lus_nn (x := m) (s := -K) (by omega) (by omega)
        generalize q_lus m (-K) = v at *
        rw [w64_of (x := v) (by omega) (by omega)]
        split
        · omega
        · split <;> omega
end SHL
