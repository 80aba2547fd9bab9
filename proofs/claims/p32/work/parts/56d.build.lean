section SHB
/-- an entry of kind k was put at p, behind all others -/
def ENt (σ τ : SG) (p k : Int) : Prop := eO (τ kR_plan) p ∧ τ kR_plan p = k ∧ p + eL (τ kR_plan) p = 65536 + τ kR_planMany 32 ∧ τ kR_pointMany 32 = σ kR_pointMany 32 + eP (τ kR_plan) p ∧ ∀ i, i < p → τ kR_plan i = σ kR_plan i
/-- rings were put behind the number nb -/
def RGc (σ τ : SG) (nb : Int) : Prop := 0 ≤ τ kR_plan nb ∧ τ kR_planMany 32 = σ kR_planMany 32 + τ kR_plan nb ∧ (∀ k, 0 ≤ k → k < τ kR_plan nb → 0 ≤ τ kR_plan (nb + 1 + k)) ∧ τ kR_pointMany 32 = σ kR_pointMany 32 + su_ (τ kR_plan) (nb + 1) (τ kR_plan nb).toNat ∧ ∀ i, i < nb → τ kR_plan i = σ kR_plan i
/-- parts of kind k were put behind the number nb -/
def PTc (σ τ : SG) (nb k : Int) : Prop := 1 ≤ τ kR_plan nb ∧ PT (τ kR_plan) k (τ kR_plan nb).toNat (nb + 1) (65536 + τ kR_planMany 32) ∧ FL (τ kR_plan) (τ kR_plan nb).toNat (nb + 1) (65536 + τ kR_planMany 32) (τ kR_pointMany 32 - σ kR_pointMany 32) ∧ ∀ i, i < nb → τ kR_plan i = σ kR_plan i
/-- a whole shape was put at p -/
def UN (σ τ : SG) (p : Int) : Prop := (∃ f, TU (τ kR_plan) f 0 1 p (65536 + τ kR_planMany 32)) ∧ (∃ m, FL (τ kR_plan) m p (65536 + τ kR_planMany 32) (τ kR_pointMany 32 - σ kR_pointMany 32)) ∧ ∀ i, i < p → τ kR_plan i = σ kR_plan i
theorem EN_two {σ τ : SG} {p k n : Int} (hk : 1 ≤ k ∧ k ≤ 2) (h1 : τ kR_plan p = k) (h2 : τ kR_plan (p + 1) = n) (hn : 0 ≤ n ∧ n ≤ 2048) (hn1 : k = 1 → n ≤ 1) (hm : p + 2 = 65536 + τ kR_planMany 32) (hp : τ kR_pointMany 32 = σ kR_pointMany 32 + n) (hs : ∀ i, i < p → τ kR_plan i = σ kR_plan i) : ENt σ τ p k := by
  refine ⟨⟨by omega, by omega, by omega, fun e => by rw [h2]; exact hn1 (by omega), fun e => by omega⟩, h1, ?_, ?_, hs⟩
  · rw [el_n (by omega)]; exact hm
  · rw [ep_l (by omega), h2]; exact hp
theorem EN_rings {σ τ : SG} {p : Int} (hb : 0 ≤ σ kR_planMany 32 ∧ τ kR_planMany 32 ≤ 2048) (h1 : τ kR_plan p = 3) (hm0 : p + 2 = 65536 + σ kR_planMany 32) (h : RGc σ τ (p + 1)) : ENt σ τ p 3 := by
  obtain ⟨a, b, c, d, e⟩ := h
  rw [show p + 1 + 1 = p + 2 by omega] at c d
  refine ⟨⟨by omega, by omega, by omega, fun e => by omega, fun _ => c⟩, h1, ?_, ?_, fun i hi => e i (by omega)⟩
  · rw [el_3 h1]; omega
  · rw [ep_3 h1]; exact d
theorem EN_empty {σ τ : SG} {p k : Int} (hk : 1 ≤ k ∧ k ≤ 3) (h1 : τ kR_plan p = k) (h2 : τ kR_plan (p + 1) = 0) (hm : p + 2 = 65536 + τ kR_planMany 32) (hp : τ kR_pointMany 32 = σ kR_pointMany 32) (hs : ∀ i, i < p → τ kR_plan i = σ kR_plan i) : ENt σ τ p k := by
  refine ⟨⟨by omega, by omega, by omega, fun e => by omega, fun e j j0 j1 => by omega⟩, h1, ?_, ?_, hs⟩
  · unfold eL; split <;> omega
  · unfold eP
    split
    · omega
    · rw [h2]; split
      · show _ = _ + (0 : Int); omega
      · omega
theorem UN_EN {σ τ : SG} {p k : Int} (hk : 1 ≤ k ∧ k ≤ 3) (h : ENt σ τ p k) : UN σ τ p := by
  obtain ⟨ho, a, b, c, d⟩ := h
  refine ⟨⟨1, Or.inr ⟨by omega, p + eL (τ kR_plan) p, Or.inl ⟨by omega, by omega, ho.2.2.1.1, rfl⟩, ?_⟩⟩, ⟨1, ho, ?_⟩, d⟩
  · exact ⟨rfl, b⟩
  · exact ⟨b, by omega⟩
theorem UN_multi {σ τ : SG} {p k : Int} (hb : 65536 ≤ p ∧ τ kR_planMany 32 ≤ 2048) (hk : 4 ≤ k ∧ k ≤ 6) (h1 : τ kR_plan p = k) (h : PTc σ τ (p + 1) (k - 3)) : UN σ τ p := by
  obtain ⟨a, b, c, d⟩ := h
  rw [show p + 1 + 1 = p + 2 by omega] at b c
  have lb := PT_le b
  refine ⟨⟨1, Or.inr ⟨by omega, 65536 + τ kR_planMany 32, Or.inr (Or.inl ⟨by omega, by omega, by omega, by rw [h1]; exact b⟩), ⟨rfl, rfl⟩⟩⟩, ⟨(τ kR_plan (p + 1)).toNat + 1, ⟨by omega, by omega, by omega, fun e => by omega, fun e => by omega⟩, ?_⟩, fun i hi => d i (by omega)⟩
  rw [el_n (by omega), ep_g (by omega), Int.sub_zero]
  exact c
theorem UN_empty {σ τ : SG} {p k : Int} {d : Nat} (hd : k = 7 → 0 < d) (hk : 1 ≤ k ∧ k ≤ 7) (h1 : τ kR_plan p = k) (h2 : τ kR_plan (p + 1) = 0) (hm : p + 2 = 65536 + τ kR_planMany 32) (hp : τ kR_pointMany 32 = σ kR_pointMany 32) : (∃ f, TU (τ kR_plan) f d 1 p (65536 + τ kR_planMany 32)) ∧ (∃ m, FL (τ kR_plan) m p (65536 + τ kR_planMany 32) (τ kR_pointMany 32 - σ kR_pointMany 32)) := by
  have l : eL (τ kR_plan) p = 2 := by unfold eL; split <;> omega
  have e : eP (τ kR_plan) p = 0 := by
    unfold eP; split
    · omega
    · rw [h2]; split
      · rfl
      · rfl
  refine ⟨⟨2, Or.inr ⟨by omega, p + 2, ?_, Or.inl ⟨rfl, hm⟩⟩⟩, ⟨1, ⟨by omega, by omega, by omega, fun e => by omega, fun e j j0 j1 => by omega⟩, by rw [l, e]; exact ⟨hm, by omega⟩⟩⟩
  rcases (show k ≤ 3 ∨ (4 ≤ k ∧ k ≤ 6) ∨ k = 7 by omega) with q | q | q
  · exact Or.inl ⟨by omega, by omega, by omega, by rw [l]⟩
  · refine Or.inr (Or.inl ⟨by omega, by omega, by omega, ?_⟩)
    rw [h2]; rfl
  · refine Or.inr (Or.inr ⟨by omega, by omega, hd q, ?_⟩)
    rw [h2]; exact Or.inl ⟨rfl, rfl⟩
theorem EN_base {σ ρ τ : SG} {p k : Int} (h : ENt ρ τ p k) (h1 : ρ kR_pointMany 32 = σ kR_pointMany 32) (h2 : ∀ i, i < p → ρ kR_plan i = σ kR_plan i) : ENt σ τ p k := by
  obtain ⟨a, b, c, d, e⟩ := h
  exact ⟨a, b, c, by omega, fun i hi => (e i hi).trans (h2 i hi)⟩
theorem PT_step {σ τ υ : SG} {nb k : Int} {n : Nat} {T : Int} (hn : nb + 1 ≤ 65536 + σ kR_planMany 32) (h : PT (σ kR_plan) k n (nb + 1) (65536 + σ kR_planMany 32)) (hf : FL (σ kR_plan) n (nb + 1) (65536 + σ kR_planMany 32) (σ kR_pointMany 32 - T)) (he : ENt σ τ (65536 + σ kR_planMany 32) k) (hp : ∀ i, i ≠ nb → υ kR_plan i = τ kR_plan i) (hm : υ kR_planMany 32 = τ kR_planMany 32) (hq : υ kR_pointMany 32 = τ kR_pointMany 32) : PT (υ kR_plan) k (n + 1) (nb + 1) (65536 + υ kR_planMany 32) ∧ FL (υ kR_plan) (n + 1) (nb + 1) (65536 + υ kR_planMany 32) (υ kR_pointMany 32 - T) ∧ σ kR_planMany 32 + 2 ≤ υ kR_planMany 32 := by
  obtain ⟨a, b, c, d, e⟩ := he
  have l2 := eL_2 a
  obtain ⟨x, y, z⟩ := eO_cg (pm := υ kR_plan) (q := 65536 + σ kR_planMany 32 + eL (τ kR_plan) (65536 + σ kR_planMany 32)) a (Int.le_refl _) (fun i i0 i1 => hp i (by omega))
  have s1 : ∀ i, nb + 1 ≤ i → i < 65536 + σ kR_planMany 32 → υ kR_plan i = σ kR_plan i := fun i i0 i1 => (hp i (by omega)).trans (e i i1)
  have p1 := PT_app (PT_cg h s1) (by rw [hp _ (by omega)]; exact b) (x.2.2.1.1)
  have f1 := FL_app (FL_cg hf s1) x
  rw [y, c, ← hm] at p1 f1
  rw [z, show σ kR_pointMany 32 - T + eP (τ kR_plan) (65536 + σ kR_planMany 32) = υ kR_pointMany 32 - T by omega] at f1
  exact ⟨p1, f1, by omega⟩
/-- collections not yet shut: where the content of the l-th begins, and the points ahead of it -/
def OPn (pl oa : Int → Int) : Nat → Int → Int → Prop
  | 0, p, T => p = 65536 ∧ T = 0
  | l + 1, p, T => ∃ (q r T0 t : Int) (c f m : Nat), OPn pl oa l q T0 ∧ TU pl f (50 - l) c q r ∧ FL pl m q r t ∧ T = T0 + t ∧ (l = 0 → c = 0) ∧ (0 < l → pl (65536 + oa ((l : Int) - 1)) = (c : Nat) + 1) ∧ pl r = 7 ∧ oa l = r + 1 - 65536 ∧ p = r + 2
theorem OPn_le {pl oa : Int → Int} : ∀ {l : Nat} {p T : Int}, OPn pl oa l p T → 65536 + 2 * l ≤ p ∧ (0 < l → 65536 + oa ((l : Int) - 1) = p - 1) ∧ 0 ≤ T
  | 0, p, T, h => by obtain ⟨a, b⟩ := h; omega
  | l + 1, p, T, h => by
    obtain ⟨q, r, T0, t, c, f, m, h1, h2, h8, h9, h3, h4, h5, h6, h7⟩ := h
    have a := OPn_le h1
    have b := TU_le h2
    have d := FL_le h8
    refine ⟨by omega, fun _ => ?_, by omega⟩
    rw [show ((l + 1 : Nat) : Int) - 1 = l by omega, h6]; omega
theorem OPn_cg {pl pm oa ob : Int → Int} : ∀ {l : Nat} {p T : Int}, OPn pl oa l p T → (∀ i, i < p - 1 → pm i = pl i) → (∀ j, 0 ≤ j → j < (l : Int) → ob j = oa j) → OPn pm ob l p T
  | 0, p, T, h, _, _ => h
  | l + 1, p, T, h, hc, ho => by
    obtain ⟨q, r, T0, t, c, f, m, h1, h2, h8, h9, h3, h4, h5, h6, h7⟩ := h
    have a := OPn_le h1
    have b := TU_le h2
    refine ⟨q, r, T0, t, c, f, m, OPn_cg h1 (fun i hi => hc i (by omega)) (fun j j0 j1 => ho j j0 (by omega)), TU_cg h2 (fun i i0 i1 => hc i (by omega)), FL_cg h8 (fun i i0 i1 => hc i (by omega)), h9, h3, fun hl => ?_, by rw [hc r (by omega)]; exact h5, by rw [ho l (by omega) (by omega)]; exact h6, h7⟩
    have a2 := a.2.1 hl
    rw [ho _ (by omega) (by omega), hc _ (by omega)]
    exact h4 hl
/-- words, between shapes; w: the first one is wanted -/
def WSs (σ : SG) (w : Bool) : Prop := ∃ (p T : Int) (c f m : Nat), OPn (σ kR_plan) (σ kR_openAt) (σ kR_open 0).toNat p T ∧ TU (σ kR_plan) f (50 - (σ kR_open 0).toNat) c p (65536 + σ kR_planMany 32) ∧ FL (σ kR_plan) m p (65536 + σ kR_planMany 32) (σ kR_pointMany 32 - T) ∧ (σ kR_open 0 = 0 → c = if w = true then 0 else 1) ∧ (0 < σ kR_open 0 → σ kR_plan (65536 + σ kR_openAt (σ kR_open 0 - 1)) = c)
theorem FL_add {pl : Int → Int} : ∀ {m n : Nat} {p q r t u : Int}, FL pl m p q t → FL pl n q r u → FL pl (m + n) p r (t + u)
  | 0, n, p, q, r, t, u, h, g => by
    obtain ⟨a, b⟩ := h
    subst a; subst b
    rw [Nat.zero_add, Int.zero_add]; exact g
  | m + 1, n, p, q, r, t, u, h, g => by
    obtain ⟨a, b⟩ := h
    rw [show m + 1 + n = m + n + 1 by omega]
    refine ⟨a, ?_⟩
    rw [show t + u - eP pl p = t - eP pl p + u by omega]
    exact FL_add b g
theorem WS_0 {σ : SG} (h1 : σ kR_open 0 = 0) (h2 : σ kR_planMany 32 = 0) (h3 : σ kR_pointMany 32 = 0) : WSs σ true := by
  refine ⟨65536, 0, 0, 0, 0, ?_, ?_, ?_, fun _ => rfl, fun h => by omega⟩
  · rw [h1]; exact ⟨rfl, rfl⟩
  · rw [h1, h2]; exact ⟨rfl, rfl⟩
  · rw [h2, h3]; exact ⟨rfl, rfl⟩
/-- a count of the unshut collection is within the plan -/
theorem WS_b {σ : SG} {w : Bool} (h : WSs σ w) (ho : 0 ≤ σ kR_open 0) : (0 < σ kR_open 0 → 65536 ≤ 65536 + σ kR_openAt (σ kR_open 0 - 1) ∧ 65536 + σ kR_openAt (σ kR_open 0 - 1) < 65536 + σ kR_planMany 32 ∧ 0 ≤ σ kR_plan (65536 + σ kR_openAt (σ kR_open 0 - 1)) ∧ 2 * σ kR_plan (65536 + σ kR_openAt (σ kR_open 0 - 1)) ≤ σ kR_planMany 32) ∧ 2 * σ kR_open 0 ≤ σ kR_planMany 32 := by
  obtain ⟨p, T, c, f, m, h1, h2, h3, h4, h5⟩ := h
  have a := OPn_le h1
  have b := TU_le h2
  have e : (((σ kR_open 0).toNat : Nat) : Int) = σ kR_open 0 := by omega
  rw [e] at a
  refine ⟨fun q => ?_, by omega⟩
  have a2 := a.2.1 (by omega)
  rw [h5 q]
  omega
/-- one more whole shape -/
theorem WS_unit {σ τ : SG} (h : WSs σ true) (ho0 : 0 ≤ σ kR_open 0) (ho1 : σ kR_open 0 ≤ 50) (eo : τ kR_open 0 = σ kR_open 0) (ea : ∀ j, τ kR_openAt j = σ kR_openAt j) (hu : ∃ f, TU (τ kR_plan) f (50 - (σ kR_open 0).toNat) 1 (65536 + σ kR_planMany 32) (65536 + τ kR_planMany 32)) (hf : ∃ m, FL (τ kR_plan) m (65536 + σ kR_planMany 32) (65536 + τ kR_planMany 32) (τ kR_pointMany 32 - σ kR_pointMany 32)) (hs : ∀ i, i < 65536 + σ kR_planMany 32 → (0 < σ kR_open 0 → i ≠ 65536 + σ kR_openAt (σ kR_open 0 - 1)) → τ kR_plan i = σ kR_plan i) (hm : 0 < σ kR_open 0 → τ kR_plan (65536 + σ kR_openAt (σ kR_open 0 - 1)) = σ kR_plan (65536 + σ kR_openAt (σ kR_open 0 - 1)) + 1) : WSs τ false := by
  obtain ⟨p, T, c, f, m, h1, h2, h3, h4, h5⟩ := h
  obtain ⟨g, hu⟩ := hu
  obtain ⟨k, hf⟩ := hf
  have a := OPn_le h1
  have b := TU_le h2
  have e : (((σ kR_open 0).toNat : Nat) : Int) = σ kR_open 0 := by omega
  have nn : ∀ i, p ≤ i → i < 65536 + σ kR_planMany 32 → τ kR_plan i = σ kR_plan i := fun i i0 i1 => hs i i1 (fun q => by
    have a2 := a.2.1 (by omega)
    rw [e] at a2; omega)
  refine ⟨p, T, c + 1, f + g + 1, m + k, ?_, ?_, ?_, fun q => ?_, fun q => ?_⟩
  · rw [eo]
    exact OPn_cg h1 (fun i hi => hs i (by omega) (fun q => by
      have a2 := a.2.1 (by omega)
      rw [e] at a2; omega)) (fun j _ _ => ea j)
  · rw [eo]
    exact TU_app (TU_cg h2 nn) hu
  · have := FL_add (FL_cg h3 nn) hf
    rw [show σ kR_pointMany 32 - T + (τ kR_pointMany 32 - σ kR_pointMany 32) = τ kR_pointMany 32 - T by omega] at this
    exact this
  · rw [eo] at q
    rw [h4 q]; rfl
  · rw [eo] at q ⊢
    rw [ea, hm q, h5 q]; omega
/-- a collection is opened -/
theorem WS_open {σ τ : SG} (h : WSs σ true) (ho0 : 0 ≤ σ kR_open 0) (ho1 : σ kR_open 0 < 50) (eo : τ kR_open 0 = σ kR_open 0 + 1) (ea : ∀ j, j ≠ σ kR_open 0 → τ kR_openAt j = σ kR_openAt j) (ea1 : τ kR_openAt (σ kR_open 0) = σ kR_planMany 32 + 1) (ep : τ kR_planMany 32 = σ kR_planMany 32 + 2) (eq : τ kR_pointMany 32 = σ kR_pointMany 32) (hk : τ kR_plan (65536 + σ kR_planMany 32) = 7) (hn : τ kR_plan (65536 + σ kR_planMany 32 + 1) = 0) (hs : ∀ i, i < 65536 + σ kR_planMany 32 → (0 < σ kR_open 0 → i ≠ 65536 + σ kR_openAt (σ kR_open 0 - 1)) → τ kR_plan i = σ kR_plan i) (hm : 0 < σ kR_open 0 → τ kR_plan (65536 + σ kR_openAt (σ kR_open 0 - 1)) = σ kR_plan (65536 + σ kR_openAt (σ kR_open 0 - 1)) + 1) : WSs τ true := by
  obtain ⟨p, T, c, f, m, h1, h2, h3, h4, h5⟩ := h
  have a := OPn_le h1
  have b := TU_le h2
  have e : (((σ kR_open 0).toNat : Nat) : Int) = σ kR_open 0 := by omega
  have nn : ∀ i, p ≤ i → i < 65536 + σ kR_planMany 32 → τ kR_plan i = σ kR_plan i := fun i i0 i1 => hs i i1 (fun q => by
    have a2 := a.2.1 (by omega)
    rw [e] at a2; omega)
  have et : (τ kR_open 0).toNat = (σ kR_open 0).toNat + 1 := by omega
  refine ⟨65536 + τ kR_planMany 32, σ kR_pointMany 32, 0, 0, 0, ?_, ?_, ?_, fun q => by omega, fun q => ?_⟩
  · rw [et]
    refine ⟨p, 65536 + σ kR_planMany 32, T, σ kR_pointMany 32 - T, c, f, m, ?_, TU_cg h2 nn, FL_cg h3 nn, by omega, fun q => ?_, fun q => ?_, hk, ?_, by omega⟩
    · exact OPn_cg h1 (fun i hi => hs i (by omega) (fun q => by
        have a2 := a.2.1 (by omega)
        rw [e] at a2; omega)) (fun j j0 j1 => ea j (by omega))
    · exact h4 (by omega)
    · rw [e, ea _ (by omega), hm (by omega), h5 (by omega)]
    · rw [e, ea1]; omega
  · exact ⟨rfl, rfl⟩
  · rw [eq]; exact ⟨rfl, by omega⟩
  · rw [eo, show σ kR_open 0 + 1 - 1 = σ kR_open 0 by omega, ea1, show 65536 + (σ kR_planMany 32 + 1) = 65536 + σ kR_planMany 32 + 1 by omega]
    exact hn
/-- a collection is closed -/
theorem WS_close {σ τ : SG} (hb : σ kR_planMany 32 ≤ 2048) (h : WSs σ false) (ho0 : 0 < σ kR_open 0) (ho1 : σ kR_open 0 ≤ 50) (eo : τ kR_open 0 = σ kR_open 0 - 1) (ea : ∀ j, τ kR_openAt j = σ kR_openAt j) (ep : τ kR_planMany 32 = σ kR_planMany 32) (eq : τ kR_pointMany 32 = σ kR_pointMany 32) (hs : ∀ i, τ kR_plan i = σ kR_plan i) : WSs τ false := by
  obtain ⟨p, T, c, f, m, h1, h2, h3, h4, h5⟩ := h
  have hpl : τ kR_plan = σ kR_plan := funext hs
  have hoa : τ kR_openAt = σ kR_openAt := funext ea
  obtain ⟨l, hl⟩ : ∃ l, (σ kR_open 0).toNat = l + 1 := ⟨(σ kR_open 0).toNat - 1, by omega⟩
  rw [hl] at h1 h2
  obtain ⟨q, r, T0, t, c0, f0, m0, k1, k2, k8, k9, k3, k4, k5, k6, k7⟩ := h1
  have e : σ kR_open 0 - 1 = (l : Int) := by omega
  have et : (τ kR_open 0).toNat = l := by omega
  have lt := TU_le h2
  have aq := OPn_le k1
  have bq := TU_le k2
  have cc := h5 ho0
  rw [e, k6, show 65536 + (r + 1 - 65536) = r + 1 by omega] at cc
  unfold WSs
  rw [hpl, hoa, ep, eq, et]
  have u : TU (σ kR_plan) (f + 1) (50 - l) 1 r (65536 + σ kR_planMany 32) := by
    refine Or.inr ⟨by omega, 65536 + σ kR_planMany 32, Or.inr (Or.inr ⟨k5, by omega, by omega, ?_⟩), ?_⟩
    · rw [cc, ← k7]
      exact TU_up h2 (Nat.le_refl _) (by omega)
    · cases f with
      | zero => exact ⟨rfl, rfl⟩
      | succ f => exact Or.inl ⟨rfl, rfl⟩
  have l7 := el_n (pl := σ kR_plan) (p := r) (by omega)
  have e7 := ep_g (pl := σ kR_plan) (p := r) (by omega)
  have fl : FL (σ kR_plan) (m + 1) r (65536 + σ kR_planMany 32) (σ kR_pointMany 32 - T) := by
    refine ⟨⟨by omega, by omega, by omega, fun z => by omega, fun z => by omega⟩, ?_⟩
    rw [l7, e7, ← k7, Int.sub_zero]; exact h3
  refine ⟨q, T0, c0 + 1, f0 + (f + 1) + 1, m0 + (m + 1), k1, TU_app k2 u, ?_, fun z => ?_, fun z => ?_⟩
  · have := FL_add k8 fl
    rw [show t + (σ kR_pointMany 32 - T) = σ kR_pointMany 32 - T0 by omega] at this
    exact this
  · rw [k3 (by omega)]; rfl
  · rw [eo, e, k4 (by omega)]; omega
/-- slot 32 holds a whole shape -/
def SHn (σ : SG) : Prop := 2 ≤ σ kR_planMany 32 ∧ (∃ m, FL (σ kR_plan) m 65536 (65536 + σ kR_planMany 32) (σ kR_pointMany 32)) ∧ ∃ f, TU (σ kR_plan) f 50 1 65536 (65536 + σ kR_planMany 32)
theorem WS_end {σ : SG} (h : WSs σ false) (ho : σ kR_open 0 = 0) : SHn σ := by
  obtain ⟨p, T, c, f, m, h1, h2, h3, h4, h5⟩ := h
  rw [ho] at h1 h2
  obtain ⟨rfl, rfl⟩ := h1
  have c1 : c = 1 := h4 ho
  subst c1
  have l := TU_le h2
  exact ⟨by omega, ⟨m, by rw [Int.sub_zero] at h3; exact h3⟩, f, h2⟩
theorem SHn_SH {σ : SG} (h : SHn σ) : SH σ 32 := Or.inr h
theorem SHn_fr {σ τ : SG} (h1 : ∀ i, τ kR_plan i = σ kR_plan i) (h2 : τ kR_planMany 32 = σ kR_planMany 32) (h3 : τ kR_pointMany 32 = σ kR_pointMany 32) (h : SHn σ) : SHn τ := by
  have e : τ kR_plan = σ kR_plan := funext h1
  unfold SHn
  rw [e, h2, h3]; exact h
theorem WS_any {σ : SG} {w v : Bool} (ho : 0 < σ kR_open 0) (h : WSs σ w) : WSs σ v := by
  obtain ⟨p, T, c, f, m, h1, h2, h3, h4, h5⟩ := h
  exact ⟨p, T, c, f, m, h1, h2, h3, fun q => by omega, h5⟩
theorem WS_fr {σ τ : SG} {w : Bool} (h1 : ∀ i, τ kR_plan i = σ kR_plan i) (h2 : τ kR_planMany 32 = σ kR_planMany 32) (h3 : τ kR_pointMany 32 = σ kR_pointMany 32) (h4 : τ kR_open 0 = σ kR_open 0) (h5 : ∀ j, τ kR_openAt j = σ kR_openAt j) (h : WSs σ w) : WSs τ w := by
  have e : τ kR_plan = σ kR_plan := funext h1
  have e2 : τ kR_openAt = σ kR_openAt := funext h5
  unfold WSs
  rw [e, e2, h2, h3, h4]; exact h
def bn_ (b : Bool) : Int := if b = true then 1 else 0
theorem bn_01 (b : Bool) : 0 ≤ bn_ b ∧ bn_ b ≤ 1 := by unfold bn_; split <;> omega
theorem bn_t {b : Bool} (h : b = true) : bn_ b = 1 := by unfold bn_; rw [if_pos h]
theorem bn_f {b : Bool} (h : ¬ b = true) : bn_ b = 0 := by unfold bn_; rw [if_neg h]
abbrev wsc : List Nat := [kR_plan, kR_planMany, kR_pointMany, kR_open, kR_openAt]
theorem WS_f {σ τ : SG} {w : Bool} {ms : List Nat} (f : FR ms σ τ) (h : dj ms wsc = true) (j : WSs σ w) : WSs τ w := WS_fr (FR_at f (dj_c h (by decide))) (FR_at f (dj_c h (by decide)) 32) (FR_at f (dj_c h (by decide)) 32) (FR_at f (dj_c h (by decide)) 0) (FR_at f (dj_c h (by decide))) j
abbrev snc : List Nat := [kR_plan, kR_planMany, kR_pointMany]
theorem SHn_f {σ τ : SG} {ms : List Nat} (f : FR ms σ τ) (h : dj ms snc = true) (j : SHn σ) : SHn τ := SHn_fr (FR_at f (dj_c h (by decide))) (FR_at f (dj_c h (by decide)) 32) (FR_at f (dj_c h (by decide)) 32) j
end SHB
