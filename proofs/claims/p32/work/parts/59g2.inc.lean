section INCI
/-- so many ends of the first pieces of the boundary stand at h -/
noncomputable def dgc (b f t : Int → Int) : Nat → Int → Int
  | 0, _ => 0
  | n + 1, h => dgc b f t n h + (if nz (b n) = true then (if f n = h then 1 else 0) + (if t n = h then 1 else 0) else 0)
noncomputable def smf (g : Int → Int) : Nat → Int
  | 0 => 0
  | n + 1 => smf g n + g n
theorem smf_add (g k : Int → Int) : ∀ n, smf (fun h => g h + k h) n = smf g n + smf k n
  | 0 => rfl
  | n + 1 => by
    have := smf_add g k n
    show smf (fun h => g h + k h) n + (g n + k n) = (smf g n + g n) + (smf k n + k n)
    omega
theorem smf_one (a : Int) : ∀ n : Nat, 0 ≤ smf (fun h => if a = h then 1 else 0) n ∧ smf (fun h => if a = h then 1 else 0) n ≤ 1 ∧ ((n : Int) ≤ a → smf (fun h => if a = h then 1 else 0) n = 0)
  | 0 => ⟨Int.le_refl _, by show (0 : Int) ≤ 1; decide, fun _ => rfl⟩
  | n + 1 => by
    obtain ⟨h1, h2, h3⟩ := smf_one a n
    show 0 ≤ smf (fun h => if a = h then 1 else 0) n + (if a = (n : Int) then 1 else 0) ∧ smf (fun h => if a = h then 1 else 0) n + (if a = (n : Int) then 1 else 0) ≤ 1 ∧ (((n + 1 : Nat) : Int) ≤ a → smf (fun h => if a = h then 1 else 0) n + (if a = (n : Int) then 1 else 0) = 0)
    by_cases z : a = (n : Int)
    · rw [if_pos z, h3 (by omega)]
      exact ⟨by decide, by decide, fun q => by omega⟩
    · rw [if_neg z]
      exact ⟨by omega, by omega, fun q => by have := h3 (by omega); omega⟩
theorem smf_zero : ∀ n : Nat, smf (fun _ => 0) n = 0
  | 0 => rfl
  | n + 1 => by show smf (fun _ => 0) n + 0 = 0; rw [smf_zero n]; rfl
theorem smf_dgc (b f t : Int → Int) (m : Nat) : ∀ n : Nat, smf (dgc b f t n) m ≤ 2 * n
  | 0 => by
    have : smf (dgc b f t 0) m = 0 := smf_zero m
    omega
  | n + 1 => by
    have ih := smf_dgc b f t m n
    have e : smf (dgc b f t (n + 1)) m = smf (dgc b f t n) m + smf (fun h => if nz (b n) = true then (if f n = h then 1 else 0) + (if t n = h then 1 else 0) else 0) m := smf_add _ _ m
    rw [e]
    have : smf (fun h => if nz (b n) = true then (if f n = h then (1 : Int) else 0) + (if t n = h then 1 else 0) else 0) m ≤ 2 := by
      by_cases z : nz (b n) = true
      · have e2 : (fun h => if nz (b n) = true then (if f n = h then (1 : Int) else 0) + (if t n = h then 1 else 0) else 0) = fun h => (if f n = h then (1 : Int) else 0) + (if t n = h then 1 else 0) := funext fun h => if_pos z
        have := smf_add (fun h => if f n = h then 1 else 0) (fun h => if t n = h then 1 else 0) m
        have h1 := smf_one (f n) m
        have h2 := smf_one (t n) m
        rw [e2, this]; omega
      · have e2 : (fun h => if nz (b n) = true then (if f n = h then (1 : Int) else 0) + (if t n = h then 1 else 0) else 0) = fun _ => 0 := funext fun h => if_neg z
        rw [e2, smf_zero m]; decide
    omega
theorem dgc_g (b f t : Int → Int) (n : Nat) (h : Int) : dgc b f t n h ≤ dgc b f t (n + 1) h ∧ dgc b f t (n + 1) h ≤ dgc b f t n h + 2 := by
  show dgc b f t n h ≤ dgc b f t n h + (if nz (b n) = true then (if f n = h then 1 else 0) + (if t n = h then 1 else 0) else 0) ∧ dgc b f t n h + (if nz (b n) = true then (if f n = h then 1 else 0) + (if t n = h then 1 else 0) else 0) ≤ _
  repeat' split
  all_goals omega
theorem dgc_b (b f t : Int → Int) (h : Int) : ∀ n : Nat, 0 ≤ dgc b f t n h ∧ dgc b f t n h ≤ 2 * n
  | 0 => ⟨Int.le_refl _, Int.le_refl _⟩
  | n + 1 => by have := dgc_b b f t h n; have := dgc_g b f t n h; omega
theorem dgc_le (b f t : Int → Int) (h : Int) {n : Nat} : ∀ {m : Nat}, n ≤ m → dgc b f t n h ≤ dgc b f t m h
  | 0, q => by rw [show n = 0 by omega]; exact Int.le_refl _
  | m + 1, q => by
    by_cases z : n = m + 1
    · rw [z]; exact Int.le_refl _
    · exact Int.le_trans (dgc_le b f t h (by omega)) (dgc_g b f t m h).1
theorem smf_le {g : Int → Int} (hg : ∀ h, 0 ≤ g h) {n : Nat} : ∀ {m : Nat}, n ≤ m → smf g n ≤ smf g m
  | 0, q => by rw [show n = 0 by omega]; exact Int.le_refl _
  | m + 1, q => by
    by_cases z : n = m + 1
    · rw [z]; exact Int.le_refl _
    · have := smf_le hg (show n ≤ m by omega)
      have := hg m
      show _ ≤ smf g m + g m
      omega
noncomputable def dgs (σ : SG) (n : Int) (h : Int) : Int := dgc (σ kG_isBoundary) (σ kN_pieceFrom) (σ kN_pieceTo) n.toNat h
theorem dgs_s {σ : SG} {n : Int} (hn : 0 ≤ n) (h : Int) : dgs σ (n + 1) h = dgs σ n h + (if nz (σ kG_isBoundary n) = true then (if σ kN_pieceFrom n = h then 1 else 0) + (if σ kN_pieceTo n = h then 1 else 0) else 0) := by
  unfold dgs
  rw [show (n + 1).toNat = n.toNat + 1 by omega]
  show _ + (if nz (σ kG_isBoundary (n.toNat : Int)) = true then (if σ kN_pieceFrom (n.toNat : Int) = h then 1 else 0) + (if σ kN_pieceTo (n.toNat : Int) = h then 1 else 0) else 0) = _
  rw [Int.toNat_of_nonneg hn]
theorem dgs_b {σ : SG} {n : Int} (hn : 0 ≤ n) (h : Int) : 0 ≤ dgs σ n h ∧ dgs σ n h ≤ 2 * n := by
  have := dgc_b (σ kG_isBoundary) (σ kN_pieceFrom) (σ kN_pieceTo) h n.toNat
  unfold dgs; omega
/-- the ends of the first n pieces are counted -/
def I1_ (σ τ : SG) (n H : Int) : Prop := (∀ h, 0 ≤ h → h < H → τ kG_begin (h + 2) = dgs σ n h) ∧ τ kG_begin 1 = 0
theorem I1_e {σ τ : SG} {n H : Int} (g : I1_ σ τ n H) (hn : 0 ≤ n) (z : ¬ nz (σ kG_isBoundary n) = true) : I1_ σ τ (n + 1) H := ⟨fun h a b => by rw [g.1 h a b, dgs_s hn, if_neg z]; omega, g.2⟩
theorem I1_t {σ τ s1 s2 : SG} {n H f t : Int} (g : I1_ σ τ n H) (hn : 0 ≤ n) (z : nz (σ kG_isBoundary n) = true) (ef : f = σ kN_pieceFrom n) (et : t = σ kN_pieceTo n) (hf : 0 ≤ f) (ht : 0 ≤ t) (e1 : s1 = sg τ kG_begin (f + 2) (τ kG_begin (f + 2) + 1)) (e2 : s2 = sg s1 kG_begin (t + 2) (s1 kG_begin (t + 2) + 1)) : I1_ σ s2 (n + 1) H := by
  refine ⟨fun h a b => ?_, ?_⟩
  · rw [dgs_s hn, if_pos z, ← ef, ← et, ← g.1 h a b, e2]
    by_cases y : t = h
    · rw [if_pos y, y, sg_at, e1]
      by_cases x : f = h
      · rw [if_pos x, x, sg_at]; omega
      · rw [if_neg x, sg_ni (by omega)]; omega
    · rw [if_neg y, sg_ni (by omega), e1]
      by_cases x : f = h
      · rw [if_pos x, x, sg_at]; omega
      · rw [if_neg x, sg_ni (by omega)]; omega
  · rw [e2, sg_ni (by omega), e1, sg_ni (by omega)]; exact g.2
theorem I1_b {σ τ : SG} {n H h : Int} (g : I1_ σ τ n H) (hn : 0 ≤ n) (h0 : 0 ≤ h) (h1 : h < H) : 0 ≤ τ kG_begin (h + 2) ∧ τ kG_begin (h + 2) ≤ 2 * n := by
  rw [g.1 h h0 h1]; exact dgs_b hn h
/-- the sums of the first h counts stand at h -/
noncomputable def sms (σ : SG) (P h : Int) : Int := smf (dgs σ P) h.toNat
theorem sms_s {σ : SG} {P h : Int} (h0 : 0 ≤ h) : sms σ P (h + 1) = sms σ P h + dgs σ P h := by
  unfold sms
  rw [show (h + 1).toNat = h.toNat + 1 by omega]
  show _ + dgs σ P (h.toNat : Int) = _
  rw [Int.toNat_of_nonneg h0]
theorem sms_b {σ : SG} {P h : Int} (hP : 0 ≤ P) : sms σ P h ≤ 2 * P := by
  have := smf_dgc (σ kG_isBoundary) (σ kN_pieceFrom) (σ kN_pieceTo) h.toNat P.toNat
  have e : sms σ P h = smf (dgc (σ kG_isBoundary) (σ kN_pieceFrom) (σ kN_pieceTo) P.toNat) h.toNat := rfl
  rw [e]; omega
theorem sms_0 {σ : SG} {P h : Int} (hP : 0 ≤ P) : 0 ≤ sms σ P h := smf_le (g := dgs σ P) (fun h => (dgs_b hP h).1) (n := 0) (Nat.zero_le _)
def I2_ (σ τ : SG) (P k H : Int) : Prop := (∀ h, 0 ≤ h → h < H → τ kG_begin (h + 2) = if h + 2 < k then sms σ P (h + 1) else dgs σ P h) ∧ τ kG_begin 1 = 0
theorem I2_0 {σ τ : SG} {P H : Int} (g : I1_ σ τ P H) : I2_ σ τ P 2 H := ⟨fun h a b => by rw [if_neg (by omega)]; exact g.1 h a b, g.2⟩
theorem I2_v {σ τ : SG} {P k H : Int} (g : I2_ σ τ P k H) (hk : 2 ≤ k) (hH : k < H + 2) : τ kG_begin k + τ kG_begin (k - 1) = sms σ P (k - 1) := by
  have h1 := g.1 (k - 2) (by omega) (by omega)
  rw [show k - 2 + 2 = k by omega, if_neg (by omega)] at h1
  by_cases z : k = 2
  · subst z
    have : sms σ P (0 + 1) = sms σ P 0 + dgs σ P 0 := sms_s (Int.le_refl _)
    have z0 : sms σ P 0 = 0 := rfl
    have g2 := g.2
    show τ kG_begin 2 + τ kG_begin 1 = sms σ P 1
    rw [h1, g2, show (1 : Int) = 0 + 1 by rfl, this, z0]
    show dgs σ P 0 + 0 = 0 + dgs σ P 0
    omega
  · have h2 := g.1 (k - 3) (by omega) (by omega)
    rw [show k - 3 + 2 = k - 1 by omega, if_pos (by omega), show k - 3 + 1 = k - 2 by omega] at h2
    have := sms_s (σ := σ) (P := P) (show 0 ≤ k - 2 by omega)
    rw [show k - 2 + 1 = k - 1 by omega] at this
    omega
theorem I2_g {σ τ υ : SG} {P k H : Int} (g : I2_ σ τ P k H) (hk : 2 ≤ k) (hH : k < H + 2) (e : υ = sg τ kG_begin k (τ kG_begin k + τ kG_begin (k - 1))) : I2_ σ υ P (k + 1) H := by
  refine ⟨fun h a b => ?_, by rw [e, sg_ni (by omega)]; exact g.2⟩
  rw [e]
  by_cases z : h + 2 = k
  · rw [z, sg_at, I2_v g hk hH, if_pos (by omega), show h + 1 = k - 1 by omega]
  · rw [sg_ni z, g.1 h a b]
    by_cases y : h + 2 < k
    · rw [if_pos y, if_pos (by omega)]
    · rw [if_neg y, if_neg (by omega)]
/-- the pieces are put into their rows -/
def I3_ (σ τ : SG) (P n H : Int) : Prop := ∀ h, 0 ≤ h → h < H → τ kG_begin (h + 1) = sms σ P h + dgs σ n h
theorem I3_0 {σ τ : SG} {P k H : Int} (g : I2_ σ τ P k H) (hk : H + 2 ≤ k) : I3_ σ τ P 0 H := fun h a b => by
  have z : dgs σ 0 h = 0 := rfl
  rw [z, Int.add_zero]
  by_cases y : h = 0
  · rw [y]
    have z0 : sms σ P 0 = 0 := rfl
    rw [z0]; exact g.2
  · have := g.1 (h - 1) (by omega) (by omega)
    rw [if_pos (by omega), show h - 1 + 2 = h + 1 by omega, show h - 1 + 1 = h by omega] at this
    exact this
theorem I3_e {σ τ : SG} {P n H : Int} (g : I3_ σ τ P n H) (hn : 0 ≤ n) (z : ¬ nz (σ kG_isBoundary n) = true) : I3_ σ τ P (n + 1) H := fun h a b => by rw [g h a b, dgs_s hn, if_neg z]; omega
theorem I3_b {σ τ : SG} {P n H : Int} (g : I3_ σ τ P n H) (hn : 0 ≤ n) (hP : n < P) (z : nz (σ kG_isBoundary n) = true) {h : Int} (h0 : 0 ≤ h) (h1 : h < H) : τ kG_begin (h + 1) + (if σ kN_pieceFrom n = h then 1 else 0) + (if σ kN_pieceTo n = h then 1 else 0) ≤ 2 * P := by
  have a := g h h0 h1
  have b := dgs_s (σ := σ) hn h
  rw [if_pos z] at b
  have c : dgs σ (n + 1) h ≤ dgs σ P h := dgc_le _ _ _ h (by omega)
  have d := sms_s (σ := σ) (P := P) h0
  have e := sms_b (σ := σ) (P := P) (h := h + 1) (by omega)
  omega
theorem I3_t {σ τ s1 s2 : SG} {P n H f t : Int} (g : I3_ σ τ P n H) (hn : 0 ≤ n) (z : nz (σ kG_isBoundary n) = true) (ef : f = σ kN_pieceFrom n) (et : t = σ kN_pieceTo n) (e1 : s1 kG_begin (f + 1) = τ kG_begin (f + 1) + 1) (n1 : ∀ i, i ≠ f + 1 → s1 kG_begin i = τ kG_begin i) (e2 : s2 kG_begin (t + 1) = s1 kG_begin (t + 1) + 1) (n2 : ∀ i, i ≠ t + 1 → s2 kG_begin i = s1 kG_begin i) : I3_ σ s2 P (n + 1) H := fun h a b => by
  rw [dgs_s hn, if_pos z, ← ef, ← et]
  have g1 := g h a b
  by_cases y : t = h
  · rw [if_pos y, ← y, e2]
    rw [← y] at g1
    by_cases x : f = t
    · rw [if_pos x, ← x, e1]
      rw [← x] at g1; omega
    · rw [if_neg x, n1 _ (by omega)]; omega
  · rw [if_neg y, n2 _ (by omega)]
    by_cases x : f = h
    · rw [if_pos x, ← x, e1]
      rw [← x] at g1; omega
    · rw [if_neg x, n1 _ (by omega)]; omega
theorem I1_z {σ τ : SG} {H n : Int} (hH : 0 ≤ H) (h : ∀ i, 0 ≤ i → i < n → τ kG_begin i = 0) (hn : n = H + 2) : I1_ σ τ 0 H := ⟨fun h' a b => h _ (by omega) (by omega), h _ (by omega) (by omega)⟩
theorem I3_b1 {σ τ : SG} {P n H f t : Int} (g : I3_ σ τ P n H) (hn : 0 ≤ n) (hP : n < P) (z : nz (σ kG_isBoundary n) = true) (ef : f = σ kN_pieceFrom n) (et : t = σ kN_pieceTo n) (hf : 0 ≤ f ∧ f < H) (ht : 0 ≤ t ∧ t < H) : τ kG_begin (f + 1) + 1 ≤ 2 * P ∧ (f = t → τ kG_begin (f + 1) + 2 ≤ 2 * P) ∧ τ kG_begin (t + 1) + 1 ≤ 2 * P := by
  have a := I3_b g hn hP z hf.1 hf.2
  have b := I3_b g hn hP z ht.1 ht.2
  rw [← ef, ← et] at a b
  rw [if_pos rfl] at a
  by_cases y : f = t
  · rw [if_pos y.symm] at a
    rw [← y]; omega
  · rw [if_neg (fun q => y q.symm)] at a
    rw [if_neg y, if_pos rfl] at b
    omega
end INCI
section TPL
/-- a counter of an unshut kind of many parts grows: the plan stays a list -/
theorem FL_inc {pl pm : Int → Int} {p : Int} (hk : 4 ≤ pl p ∧ pl p ≤ 7) (hc : 0 ≤ pm (p + 1) ∧ pm (p + 1) ≤ 2048) (e : ∀ i, i ≠ p + 1 → pm i = pl i) : ∀ {m1 m : Nat} {a q T T1 : Int}, FL pl m1 a p T1 → FL pl m a q T → p < q → FL pm m a q T
  | 0, m, a, q, T, T1, h1, h, hq => by
    obtain ⟨ea, -⟩ := h1
    rw [ea] at h ⊢
    obtain ⟨m', rfl, ho, hn, h2, -, -, -⟩ := FL_hd h hq
    have k : pm p = pl p := e p (by omega)
    have l1 : eL pl p = 2 := by unfold eL; rw [if_neg (by omega)]
    have l2 : eL pm p = 2 := by unfold eL; rw [if_neg (by omega)]
    have p1 : eP pl p = 0 := by unfold eP; rw [if_neg (by omega), if_neg (by omega)]
    have p2 : eP pm p = 0 := by unfold eP; rw [if_neg (by omega), if_neg (by omega)]
    refine ⟨⟨by omega, by omega, hc, fun z => by omega, fun z => by omega⟩, ?_⟩
    rw [l1, p1] at hn
    rw [l2, p2]
    exact FL_cg hn (fun i b _ => e i (by omega))
  | m1 + 1, m, a, q, T, T1, h1, h, hq => by
    have b1 := FL_le h1
    obtain ⟨m', rfl, ho, hn, h2, h3, -, -⟩ := FL_hd h (by omega)
    obtain ⟨ho1, hn1⟩ := h1
    have b2 := FL_le hn1
    have hl : ∀ i, i < a + eL pl a → pm i = pl i := fun i c => e i (by omega)
    have ka : pm a = pl a := hl a (by omega)
    have ka1 : pm (a + 1) = pl (a + 1) := hl _ (by omega)
    have el : eL pm a = eL pl a := by unfold eL; rw [ka, ka1]
    have ep : eP pm a = eP pl a := by
      unfold eP
      rw [ka, ka1]
      by_cases z : pl a = 3
      · have : su_ pm (a + 2) (pl (a + 1)).toNat = su_ pl (a + 2) (pl (a + 1)).toNat := su_cg (fun i c d => by
          have hle : eL pl a = 2 + pl (a + 1) := by unfold eL; rw [if_pos z]
          exact hl i (by have := ho.2.2.1.1; omega))
        rw [this]
      · simp only [if_neg z]
    refine ⟨?_, ?_⟩
    · obtain ⟨o1, o2, o3, o4, o5⟩ := ho
      refine ⟨by omega, by omega, by rw [ka1]; exact o3, fun z => by rw [ka1]; exact o4 (by omega), fun z k c d => ?_⟩
      have hle : eL pl a = 2 + pl (a + 1) := by unfold eL; rw [if_pos (by omega)]
      rw [hl _ (by omega)]; exact o5 (by omega) k c (by omega)
    · rw [el, ep]
      exact FL_inc hk hc e hn1 hn hq
/-- the multipolygon that is told so far -/
def TPs (σ : SG) (s : Nat) (k : Int) : Prop := (∃ m, FL (σ (kA_plan s)) m 0 (σ (kA_plans s) 0) (σ (kA_points s) 0)) ∧ σ (kA_plan s) 0 = 6 ∧ 0 ≤ σ (kA_plan s) 1 ∧ σ (kA_plan s) 1 ≤ k ∧ 2 ≤ σ (kA_plans s) 0
/-- the same, its last entry a polygon at p -/
def PPs (σ : SG) (s : Nat) (p k : Int) : Prop := (∃ T, PO_ (σ (kA_plan s)) p T (σ (kA_plans s) 0) (σ (kA_points s) 0) (σ (kA_plan s) (p + 1))) ∧ σ (kA_plan s) 0 = 6 ∧ 0 ≤ σ (kA_plan s) 1 ∧ σ (kA_plan s) 1 ≤ k ∧ 2 ≤ p
theorem TP_0 {σ τ : SG} {s : Nat} (h1 : σ (kA_plans s) 0 = 0) (h2 : σ (kA_points s) 0 = 0) (a : τ (kA_plans s) 0 = σ (kA_plans s) 0 + 2 ∧ τ (kA_plan s) (σ (kA_plans s) 0) = 6 ∧ τ (kA_plan s) (σ (kA_plans s) 0 + 1) = 0 ∧ (∀ i, i ≠ σ (kA_plans s) 0 → i ≠ σ (kA_plans s) 0 + 1 → τ (kA_plan s) i = σ (kA_plan s) i)) (b : τ (kA_points s) = σ (kA_points s)) : TPs τ s 0 := by
  obtain ⟨a1, a2, a3, -⟩ := a
  rw [h1] at a1 a2 a3
  have a3' : τ (kA_plan s) 1 = 0 := a3
  have z : τ (kA_plan s) (0 + 1) = 0 := a3
  have ho : eO (τ (kA_plan s)) 0 := ⟨by omega, by omega, ⟨by omega, by omega⟩, fun z => by omega, fun z => by omega⟩
  have hl : eL (τ (kA_plan s)) 0 = 2 := by unfold eL; rw [if_neg (by omega)]
  have hp : eP (τ (kA_plan s)) 0 = 0 := by unfold eP; rw [if_neg (by omega), if_neg (by omega)]
  refine ⟨⟨1, ho, ?_, ?_⟩, a2, by omega, by omega, by omega⟩
  · rw [hl]; omega
  · rw [hp, b, h2]; rfl
theorem TP_inc {σ τ : SG} {s : Nat} {k x : Int} (h : TPs σ s k) (hk : k ≤ 511) (ex : x = σ (kA_plan s) 1) (e : τ = sg σ (kA_plan s) 1 (x + 1)) : TPs τ s (k + 1) := by
  obtain ⟨⟨m, h1⟩, h2, h3, h4, h5⟩ := h
  subst ex
  unfold TPs
  have p1 : τ (kA_plan s) 1 = σ (kA_plan s) 1 + 1 := by rw [e, sg_at]
  have p0 : τ (kA_plan s) 0 = σ (kA_plan s) 0 := by rw [e, sg_ni (by decide)]
  rw [show τ (kA_plans s) = σ (kA_plans s) by rw [e]; funext i; exact sg_nc (ncA_plans_plan _), show τ (kA_points s) = σ (kA_points s) by rw [e]; funext i; exact sg_nc (ncA_points_plan _), p0, p1]
  refine ⟨⟨m, FL_inc (p := 0) (by omega) ⟨?_, ?_⟩ (fun i hi => by rw [e, sg_ni (by omega)]) (m1 := 0) (T1 := 0) ⟨rfl, rfl⟩ h1 (by omega)⟩, h2, by omega, by omega, h5⟩
  · show 0 ≤ τ (kA_plan s) 1; omega
  · show τ (kA_plan s) 1 ≤ 2048; omega
theorem TP_poly {σ α β : SG} {s : Nat} {k : Int} (h : TPs σ s k) (a : α (kA_plans s) 0 = σ (kA_plans s) 0 + 2 ∧ α (kA_plan s) (σ (kA_plans s) 0) = 3 ∧ α (kA_plan s) (σ (kA_plans s) 0 + 1) = 1 ∧ (∀ i, i ≠ σ (kA_plans s) 0 → i ≠ σ (kA_plans s) 0 + 1 → α (kA_plan s) i = σ (kA_plan s) i)) (b : α (kA_points s) = σ (kA_points s)) (r : ∃ L, 1 ≤ L ∧ β (kA_plans s) 0 = α (kA_plans s) 0 + 1 ∧ β (kA_points s) 0 = α (kA_points s) 0 + L ∧ β (kA_plan s) (α (kA_plans s) 0) = L ∧ ∀ i, i ≠ α (kA_plans s) 0 → β (kA_plan s) i = α (kA_plan s) i) : PPs β s (σ (kA_plans s) 0) k := by
  obtain ⟨⟨m, h1⟩, h2, h3, h4, h5⟩ := h
  obtain ⟨a1, a2, a3, a4⟩ := a
  obtain ⟨L, r1, r2, r3, r4, r5⟩ := r
  rw [a1] at r2 r4 r5
  have q0 : β (kA_plan s) 0 = σ (kA_plan s) 0 := by rw [r5 _ (by omega), a4 _ (by omega) (by omega)]
  have q1 : β (kA_plan s) 1 = σ (kA_plan s) 1 := by rw [r5 _ (by omega), a4 _ (by omega) (by omega)]
  have k0 : β (kA_plan s) (σ (kA_plans s) 0) = 3 := by rw [r5 _ (by omega), a2]
  have k1 : β (kA_plan s) (σ (kA_plans s) 0 + 1) = 1 := by rw [r5 _ (by omega), a3]
  have hfl : FL (β (kA_plan s)) m 0 (σ (kA_plans s) 0) (σ (kA_points s) 0) := FL_cg h1 (fun i i0 i1 => by rw [r5 i (by omega), a4 i (by omega) (by omega)])
  refine ⟨⟨σ (kA_points s) 0, ⟨m, hfl⟩, Int.le_trans (by decide) h5, k0, rfl, by rw [k1]; decide, by rw [r2, k1], fun j j0 j1 => ?_, ?_⟩, by rw [q0]; exact h2, by rw [q1]; exact h3, by rw [q1]; exact h4, h5⟩
  · rw [show σ (kA_plans s) 0 + 2 + j = σ (kA_plans s) 0 + 2 by omega, r4]; omega
  · rw [r3, b, k1]
    show _ = _ + (0 + β (kA_plan s) (σ (kA_plans s) 0 + 2 + (0 : Nat)))
    rw [show σ (kA_plans s) 0 + 2 + ((0 : Nat) : Int) = σ (kA_plans s) 0 + 2 by omega, r4]; omega
theorem PP_ring {σ τ β : SG} {s : Nat} {p k x : Int} (h : PPs σ s p k) (ex : x = σ (kA_plan s) (p + 1)) (e : τ = sg σ (kA_plan s) (p + 1) (x + 1)) (r : ∃ L, 1 ≤ L ∧ β (kA_plans s) 0 = τ (kA_plans s) 0 + 1 ∧ β (kA_points s) 0 = τ (kA_points s) 0 + L ∧ β (kA_plan s) (τ (kA_plans s) 0) = L ∧ ∀ i, i ≠ τ (kA_plans s) 0 → β (kA_plan s) i = τ (kA_plan s) i) : PPs β s p k := by
  obtain ⟨⟨T, h1⟩, h2, h3, h4, h5⟩ := h
  obtain ⟨L, r1, r2, r3, r4, r5⟩ := r
  subst ex
  obtain ⟨-, -, -, -, c0, cn, -, -⟩ := id h1
  rw [show τ (kA_plans s) 0 = σ (kA_plans s) 0 by rw [e]; exact sg_nc (ncA_plans_plan _)] at r2 r4 r5
  rw [show τ (kA_points s) 0 = σ (kA_points s) 0 by rw [e]; exact sg_nc (ncA_points_plan _)] at r3
  have q : ∀ i, i ≠ p + 1 → i ≠ σ (kA_plans s) 0 → β (kA_plan s) i = σ (kA_plan s) i := fun i a b => by rw [r5 i b, e, sg_ni a]
  have q1 : β (kA_plan s) (p + 1) = σ (kA_plan s) (p + 1) + 1 := by rw [r5 _ (by omega), e, sg_at]
  unfold PPs
  rw [r2, r3, q1, q 0 (by omega) (by omega), q 1 (by omega) (by omega)]
  exact ⟨⟨T, PO_ring h1 (by omega) q1 r4 q⟩, h2, h3, h4, h5⟩
theorem PP_end {σ : SG} {s : Nat} {p k : Int} (hσ : II σ) (hs : isS s) (h : PPs σ s p k) : TPs σ s k := by
  obtain ⟨⟨T, h1⟩, h2, h3, h4, h5⟩ := h
  have hq := iiA_plans hσ hs 0
  obtain ⟨-, -, -, -, c0, cn, -, -⟩ := id h1
  exact ⟨PO_fl h1 (by omega), h2, h3, h4, by omega⟩
theorem PP_le {σ : SG} {s : Nat} {p k : Int} (hσ : II σ) (hs : isS s) (h : PPs σ s p k) : 0 ≤ p ∧ p + 2 ≤ 2048 := by
  obtain ⟨⟨T, h1⟩, h2, h3, h4, h5⟩ := h
  have hq := iiA_plans hσ hs 0
  obtain ⟨-, -, -, -, c0, cn, -, -⟩ := id h1
  omega
theorem TP_le {σ : SG} {s : Nat} {k k' : Int} (h : TPs σ s k) (hk : k ≤ k') : TPs σ s k' := ⟨h.1, h.2.1, h.2.2.1, by have := h.2.2.2.1; omega, h.2.2.2.2⟩
theorem TP_end {σ : SG} {s : Nat} {k : Int} (h : TPs σ s k) : SHa σ s := Or.inr ⟨h.2.2.2.2, h.1⟩
end TPL
