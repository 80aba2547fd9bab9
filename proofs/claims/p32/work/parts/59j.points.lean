section PNT
theorem ct_mi {f : Nat → Bool} : ∀ {m : Nat}, ct_ m f ≤ m
  | 0 => Nat.le_refl _
  | m + 1 => by
    have := ct_mi (f := f) (m := m)
    show ct_ m f + (if f m = true then 1 else 0) ≤ m + 1
    split <;> omega
/-- so many places have a number -/
def NUs (σ : SG) (n : Int) : Prop := 0 ≤ n ∧ n ≤ (ct_ (σ kP_places 0).toNat (fun j => decide (¬ σ kP_numberOf (j : Int) = -1)) : Nat)
theorem NUs_le {σ : SG} {n : Int} (h : NUs σ n) (h0 : 0 ≤ σ kP_places 0) : n ≤ σ kP_places 0 := by
  have := ct_mi (f := fun j => decide (¬ σ kP_numberOf (j : Int) = -1)) (m := (σ kP_places 0).toNat)
  have := h.2
  omega
theorem NUs_add {σ τ υ : SG} {n x : Int} (h : NUs σ n) (e1 : τ = sg σ kP_numberOf x n) (e2 : υ = sg τ kP_placeWith n x) (x0 : 0 ≤ x) (x1 : x < σ kP_places 0) (hx : σ kP_numberOf x = -1) : NUs υ (n + 1) ∧ n < σ kP_places 0 := by
  obtain ⟨n0, n1⟩ := h
  have ep : υ kP_places 0 = σ kP_places 0 := by rw [e2, sg_nc (by decide), e1, sg_nc (by decide)]
  have en : ∀ j, υ kP_numberOf j = if j = x then n else σ kP_numberOf j := fun j => by
    rw [e2, sg_nc (by decide), e1]
    by_cases z : j = x
    · rw [if_pos z, z, sg_at]
    · rw [if_neg z, sg_ni z]
  have hl := ct_lt (f := fun j => decide (¬ σ kP_numberOf (j : Int) = -1)) (g := fun j => decide (¬ υ kP_numberOf (j : Int) = -1)) (z := x.toNat) (m := (σ kP_places 0).toNat) (fun j _ hj => by
    have hj := of_decide_eq_true hj
    refine decide_eq_true ?_
    rw [en]
    split
    · omega
    · exact hj) (by omega) (decide_eq_false (by rw [show ((x.toNat : Nat) : Int) = x by omega]; omega)) (decide_eq_true (by rw [show ((x.toNat : Nat) : Int) = x by omega, en, if_pos rfl]; omega))
  have hm := ct_mi (f := fun j => decide (¬ υ kP_numberOf (j : Int) = -1)) (m := (σ kP_places 0).toNat)
  refine ⟨⟨by omega, ?_⟩, by omega⟩
  rw [ep]; omega
theorem NUs_0 {σ : SG} : NUs σ 0 := ⟨Int.le_refl _, by omega⟩
theorem NUs_f {ms ss : List Nat} {σ τ : SG} {n : Int} (f : FC ms ss σ τ) (h : dj ms [kP_places, kP_numberOf] = true) (g : NUs σ n) : NUs τ n := by
  unfold NUs
  rw [FCk f h (c := kP_places) (by decide) (by decide), FCk f h (c := kP_numberOf) (by decide) (by decide)]; exact g
/-- keys of places that may be -/
def KYp (σ : SG) (n : Int) : Prop := ∀ i, 0 ≤ i → i < n → okey (σ kP_keys i)
theorem KYp_0 (σ : SG) : KYp σ 0 := fun i a b => by omega
theorem KYp_add {σ τ : SG} {n v : Int} (g : KYp σ n) (e : τ = sg σ kP_keys n v) (hv : okey v) : KYp τ (n + 1) := by
  intro k k0 k1
  rw [e]
  by_cases z : k = n
  · rw [z, sg_at]; exact hv
  · rw [sg_ni z]; exact g k k0 (by omega)
theorem KYp_sb {σ τ : SG} {n m : Int} (g : KYp σ n) (s : SB (239 * 256) n σ τ) (hm : m ≤ n) : KYp τ m := fun k k0 k1 => by
  obtain ⟨j, j0, j1, e⟩ := s.1 k k0 (by omega)
  have e2 : τ kP_keys k = σ kP_keys j := e
  rw [e2]; exact g j j0 j1
theorem KYp_f {ms ss : List Nat} {σ τ : SG} {n : Int} (f : FC ms ss σ τ) (h : dj ms [kP_keys] = true) (g : KYp σ n) : KYp τ n := by
  unfold KYp
  rw [FCk f h (c := kP_keys) (by decide) (by decide)]; exact g
/-- ways and rounds lead between places -/
def PWs (σ : SG) : Prop := ∀ k, 0 ≤ k → k < σ kP_ways 0 → (0 ≤ σ kP_wayFrom k ∧ σ kP_wayFrom k < σ kP_places 0) ∧ (0 ≤ σ kP_wayTo k ∧ σ kP_wayTo k < σ kP_places 0)
theorem PWs_f {ms ss : List Nat} {σ τ : SG} (f : FC ms ss σ τ) (h : dj ms [kP_ways, kP_wayFrom, kP_wayTo, kP_places] = true) (g : PWs σ) : PWs τ := by
  unfold PWs
  rw [FCk f h (c := kP_ways) (by decide) (by decide), FCk f h (c := kP_wayFrom) (by decide) (by decide), FCk f h (c := kP_wayTo) (by decide) (by decide), FCk f h (c := kP_places) (by decide) (by decide)]; exact g
theorem PWs_0 {σ : SG} (h : σ kP_ways 0 = 0) : PWs σ := fun k a b => by omega
theorem PWs_pop {σ τ : SG} (e : τ = sg σ kP_ways 0 (σ kP_ways 0 - 1)) (g : PWs σ) : PWs τ := by
  intro k k0 k1
  rw [show τ kP_ways 0 = σ kP_ways 0 - 1 by rw [e, sg_at]] at k1
  rw [e, sg_nc (by decide), sg_nc (by decide), sg_nc (by decide)]
  exact g k k0 (by omega)
theorem PWs_push {σ s1 s2 τ : SG} {a b : Int} (g : PWs σ) (e1 : s1 = sg σ kP_wayFrom (σ kP_ways 0) a) (e2 : s2 = sg s1 kP_wayTo (s1 kP_ways 0) b) (e3 : τ = sg s2 kP_ways 0 (s2 kP_ways 0 + 1)) (ha : 0 ≤ a ∧ a < σ kP_places 0) (hb : 0 ≤ b ∧ b < σ kP_places 0) : PWs τ := by
  have c1 : s1 kP_ways 0 = σ kP_ways 0 := by rw [e1, sg_nc (by decide)]
  have c2 : s2 kP_ways 0 = σ kP_ways 0 := by rw [e2, sg_nc (by decide), c1]
  have c3 : τ kP_ways 0 = σ kP_ways 0 + 1 := by rw [e3, sg_at, c2]
  have cp : τ kP_places 0 = σ kP_places 0 := by rw [e3, sg_nc (by decide), e2, sg_nc (by decide), e1, sg_nc (by decide)]
  intro k k0 k1
  rw [c3] at k1
  rw [cp, e3, sg_nc (by decide), sg_nc (by decide), e2, sg_nc (by decide), c1]
  by_cases z : k = σ kP_ways 0
  · rw [z, sg_at, e1, sg_at]; exact ⟨ha, hb⟩
  · rw [sg_ni z, e1, sg_ni z, sg_nc (by decide)]; exact g k k0 (by omega)
def PRs (σ : SG) : Prop := ∀ k, 0 ≤ k → k < σ kP_roundSize 0 → 0 ≤ σ kP_round k ∧ σ kP_round k < σ kP_places 0
theorem PRs_f {ms ss : List Nat} {σ τ : SG} (f : FC ms ss σ τ) (h : dj ms [kP_roundSize, kP_round, kP_places] = true) (g : PRs σ) : PRs τ := by
  unfold PRs
  rw [FCk f h (c := kP_roundSize) (by decide) (by decide), FCk f h (c := kP_round) (by decide) (by decide), FCk f h (c := kP_places) (by decide) (by decide)]; exact g
theorem PRs_2 {σ s1 s2 τ : SG} {a b : Int} (e1 : s1 = sg σ kP_round 0 a) (e2 : s2 = sg s1 kP_round 1 b) (e3 : τ = sg s2 kP_roundSize 0 2) (ha : 0 ≤ a ∧ a < σ kP_places 0) (hb : 0 ≤ b ∧ b < σ kP_places 0) : PRs τ := by
  have cp : τ kP_places 0 = σ kP_places 0 := by rw [e3, sg_nc (by decide), e2, sg_nc (by decide), e1, sg_nc (by decide)]
  intro k k0 k1
  rw [show τ kP_roundSize 0 = 2 by rw [e3, sg_at]] at k1
  rw [cp, e3, sg_nc (by decide), e2]
  by_cases z : k = 1
  · rw [z, sg_at]; exact hb
  · have : k = 0 := by omega
    rw [sg_ni z, e1, this, sg_at]; exact ha
theorem PRs_cut {σ τ : SG} {n : Int} (e : τ = sg σ kP_roundSize 0 n) (hn : n ≤ σ kP_roundSize 0) (g : PRs σ) : PRs τ := by
  intro k k0 k1
  rw [show τ kP_roundSize 0 = n by rw [e, sg_at]] at k1
  rw [e, sg_nc (by decide), sg_nc (by decide)]
  exact g k k0 (by omega)
theorem isr6 {x : Int} (h0 : 0 ≤ x) (h1 : x ≤ 264195) : 0 ≤ q_isr x 6 ∧ q_isr x 6 ≤ 4128 := by
  unfold q_isr
  have e1 : (Int32.ofInt 6 &&& 31) = 6 := by decide
  rw [e1]
  show 0 ≤ ((Int32.ofInt x >>> (6 : Int32)).toBitVec).toInt ∧ ((Int32.ofInt x >>> (6 : Int32)).toBitVec).toInt ≤ 4128
  rw [Int32.toBitVec_shiftRight]
  show 0 ≤ (BitVec.sshiftRight' (Int32.ofInt x).toBitVec ((6 : Int32).toBitVec.smod 32)).toInt ∧ (BitVec.sshiftRight' (Int32.ofInt x).toBitVec ((6 : Int32).toBitVec.smod 32)).toInt ≤ 4128
  rw [show ((6 : Int32).toBitVec.smod 32) = BitVec.ofNat 32 6 by decide, BitVec.sshiftRight_eq', BitVec.toInt_sshiftRight]
  have e2 : (BitVec.ofNat 32 6).toNat = 6 := by decide
  have e3 : (Int32.ofInt x).toBitVec.toInt = x := by
    show (Int32.ofInt x).toInt = x
    exact w32_of (by omega) (by omega)
  rw [e2, e3, Int.shiftRight_eq_div_pow]
  show 0 ≤ x / 64 ∧ x / 64 ≤ 4128
  omega
theorem bit_b {a b P : Int} (ha : 0 ≤ a ∧ a < P) (hb : 0 ≤ b ∧ b < P) (hP : P ≤ 514) : 0 ≤ a * P + b ∧ a * P + b ≤ 264195 := by
  have h0 := Int.mul_nonneg ha.1 (show 0 ≤ P by omega)
  have h1 := Int.mul_le_mul_of_nonneg_right (show a ≤ P - 1 by omega) (show 0 ≤ P by omega)
  have h2 := Int.mul_le_mul_of_nonneg_left (show P ≤ 514 by omega) (show 0 ≤ P - 1 by omega)
  omega
end PNT
section SIG
theorem bI_limb0 : ∀ k : Nat, k < 16 → bnd ((256 + k) * 256) = none := by decide +kernel
theorem bI_limb {k : Nat} (h : k < 16) : bnd ((256 + k) * 256) = none := bI_limb0 k h
theorem FC_lf {σ τ : SG} {k : Nat} (f : FC [((256 + k) * 256)] [] σ τ) (h : k < 16) : FC [65536, 65792, 66048, 66304, 66560, 66816, 67072, 67328, 67584, 67840, 68096, 68352, 68608, 68864, 69120, 69376] [] σ τ := by
  refine FC_le f ?_ (by simp)
  have : ∀ j : Nat, j < 16 → (([((256 + j) * 256)] : List Nat).all fun c => ([65536, 65792, 66048, 66304, 66560, 66816, 67072, 67328, 67584, 67840, 68096, 68352, 68608, 68864, 69120, 69376] : List Nat).contains c) = true := by decide
  exact this k h
theorem FC_li {σ τ : SG} {k : Nat} {i v : Int} (e : τ = sg σ ((256 + k) * 256) i v) (h : k < 16) : FC [65536, 65792, 66048, 66304, 66560, 66816, 67072, 67328, 67584, 67840, 68096, 68352, 68608, 68864, 69120, 69376] [] σ τ := FC_lf (FC_sg e (by omega)) h
theorem isr5 {x : Int} (h0 : 0 ≤ x) (h1 : x ≤ 2046) : 0 ≤ q_isr x 5 ∧ q_isr x 5 ≤ 63 := by
  unfold q_isr
  have e1 : (Int32.ofInt 5 &&& 31) = 5 := by decide
  rw [e1]
  show 0 ≤ ((Int32.ofInt x >>> (5 : Int32)).toBitVec).toInt ∧ ((Int32.ofInt x >>> (5 : Int32)).toBitVec).toInt ≤ 63
  rw [Int32.toBitVec_shiftRight]
  show 0 ≤ (BitVec.sshiftRight' (Int32.ofInt x).toBitVec ((5 : Int32).toBitVec.smod 32)).toInt ∧ (BitVec.sshiftRight' (Int32.ofInt x).toBitVec ((5 : Int32).toBitVec.smod 32)).toInt ≤ 63
  rw [show ((5 : Int32).toBitVec.smod 32) = BitVec.ofNat 32 5 by decide, BitVec.sshiftRight_eq', BitVec.toInt_sshiftRight]
  have e2 : (BitVec.ofNat 32 5).toNat = 5 := by decide
  have e3 : (Int32.ofInt x).toBitVec.toInt = x := by
    show (Int32.ofInt x).toInt = x
    exact w32_of (by omega) (by omega)
  rw [e2, e3, Int.shiftRight_eq_div_pow]
  show 0 ≤ x / 32 ∧ x / 32 ≤ 63
  omega
theorem sgn3_m {a b : Int} (ha : -1 ≤ a ∧ a ≤ 1) (hb : -1 ≤ b ∧ b ≤ 1) : -1 ≤ a * b ∧ a * b ≤ 1 := (b11 ha hb).1
end SIG
section THN
/-- an entry is made: its rows so far -/
def TQ (pl : Int → Int) (n t p k c T row : Int) : Prop := (∃ m, FL pl m 0 p T) ∧ 0 ≤ p ∧ 0 ≤ row ∧ pl p = k ∧ ((k = 3 ∧ pl (p + 1) = c ∧ n = p + 2 + row ∧ (∀ i, 0 ≤ i → i < row → 0 ≤ pl (p + 2 + i)) ∧ t = T + su_ pl (p + 2) row.toNat) ∨ (k ≠ 3 ∧ n = p + 2 ∧ ((row = 0 ∧ pl (p + 1) = c ∧ t = T) ∨ (row = 1 ∧ k < 3 ∧ (0 ≤ pl (p + 1) ∧ pl (p + 1) ≤ c) ∧ t = T + pl (p + 1)))))
theorem TQ_0 {pl pm : Int → Int} {p k c T : Int} (h : ∃ m, FL pl m 0 p T) (h0 : 0 ≤ p) (e1 : pm p = k) (e2 : pm (p + 1) = c) (e3 : ∀ i, i ≠ p → i ≠ p + 1 → pm i = pl i) : TQ pm (p + 2) T p k c T 0 := by
  obtain ⟨m, hm⟩ := h
  refine ⟨⟨m, FL_cg hm (fun i i0 i1 => e3 i (by omega) (by omega))⟩, h0, Int.le_refl _, e1, ?_⟩
  by_cases z : k = 3
  · exact Or.inl ⟨z, e2, by omega, fun i a b => by omega, by show T = T + 0; omega⟩
  · exact Or.inr ⟨z, rfl, Or.inl ⟨rfl, e2, rfl⟩⟩
theorem TQ_ring {pl pm : Int → Int} {n t p k c T row L : Int} (h : TQ pl n t p k c T row) (hk : k = 3) (hL : 0 ≤ L) (e1 : pm n = L) (e2 : ∀ i, i ≠ n → pm i = pl i) : TQ pm (n + 1) (t + L) p k c T (row + 1) := by
  obtain ⟨⟨m, hm⟩, h0, hr, h1, h2 | ⟨h2, -⟩⟩ := h
  · obtain ⟨-, h3, h4, h5, h6⟩ := h2
    refine ⟨⟨m, FL_cg hm (fun i i0 i1 => e2 i (by omega))⟩, h0, by omega, by rw [e2 p (by omega)]; exact h1, Or.inl ⟨hk, by rw [e2 _ (by omega)]; exact h3, by omega, fun i a b => ?_, ?_⟩⟩
    · by_cases z : i = row
      · rw [show p + 2 + i = n by omega, e1]; exact hL
      · rw [e2 _ (by omega)]; exact h5 i a (by omega)
    · rw [su_i hr, show p + 2 + row = n by omega, e1, h6]
      have : su_ pm (p + 2) row.toNat = su_ pl (p + 2) row.toNat := su_cg (fun i i0 i1 => e2 i (by omega))
      omega
  · exact absurd hk h2
theorem TQ_one {pl pm : Int → Int} {n t p k c T row L : Int} (h : TQ pl n t p k c T row) (hk : k < 3) (hr : row = 0) (hL : 0 ≤ L ∧ L ≤ c) (e1 : pm (n - 1) = L) (e2 : ∀ i, i ≠ n - 1 → pm i = pl i) : TQ pm n (t + L) p k c T (row + 1) := by
  obtain ⟨⟨m, hm⟩, h0, hr0, h1, ⟨h2, -⟩ | ⟨h2, h3, h4⟩⟩ := h
  · omega
  · rcases h4 with ⟨-, h5, h6⟩ | ⟨z, -⟩
    · have e3 : pm (p + 1) = L := by rw [← e1]; congr 1; omega
      refine ⟨⟨m, FL_cg hm (fun i i0 i1 => e2 i (by omega))⟩, h0, by omega, by rw [e2 p (by omega)]; exact h1, Or.inr ⟨h2, h3, Or.inr ⟨by omega, hk, by rw [e3]; exact hL, by rw [e3, h6]⟩⟩⟩
    · omega
theorem tri_a (i : Int) : 2 + 3 * i + 2 + 1 = 2 + 3 * (i + 1) := by omega
theorem tri_b (i : Int) : 4 * i + (2 - -2) = 4 * (i + 1) := by omega
theorem TQ_n {pl : Int → Int} {n t p k c T row : Int} (h : TQ pl n t p k c T row) : 2 ≤ n ∧ (k = 3 → n = p + 2 + row) ∧ (k ≠ 3 → n = p + 2) := by
  obtain ⟨-, h0, h1, -, ⟨h2, -, h3, -⟩ | ⟨h2, h3, -⟩⟩ := h
  · exact ⟨by omega, fun _ => h3, fun z => absurd h2 z⟩
  · exact ⟨by omega, fun z => absurd z h2, fun _ => h3⟩
theorem TQ_rS {pl pm : Int → Int} {n n' t t' p k c T row L : Int} (h : TQ pl n t p k c T row) (hk : k = 3) (hL : 0 ≤ L) (en : n' = n + 1) (et : t' = t + L) (e1 : pm n = L) (e2 : ∀ i, i ≠ n → pm i = pl i) : TQ pm n' t' p k c T (row + 1) := by
  subst en et; exact TQ_ring h hk hL e1 e2
theorem TQ_oS {pl pm : Int → Int} {n n' t t' p k c T row L : Int} (h : TQ pl n t p k c T row) (hk : k < 3) (hr : row = 0) (hL : 0 ≤ L ∧ L ≤ c) (en : n' = n) (et : t' = t + L) (e1 : pm (n - 1) = L) (e2 : ∀ i, i ≠ n - 1 → pm i = pl i) : TQ pm n' t' p k c T (row + 1) := by
  subst en et; exact TQ_one h hk hr hL e1 e2
theorem SHa_fl {σ : SG} {s : Nat} (h : ∃ m, FL (σ (kA_plan s)) m 0 (σ (kA_plans s) 0) (σ (kA_points s) 0)) : SHa σ s := by
  obtain ⟨m, h1⟩ := h
  by_cases z : 2 ≤ σ (kA_plans s) 0
  · exact Or.inr ⟨z, m, h1⟩
  · have b := FL_le h1
    have : m = 0 := by omega
    subst this
    obtain ⟨c1, c2⟩ := h1
    exact Or.inl ⟨c1.symm, c2⟩
theorem TQ_end {pl pm : Int → Int} {n t p k c T row : Int} (h : TQ pl n t p k c T row) (ho : eO pm p) (hk : pm p = k) (hc : pm (p + 1) = c) (hr : row = rN pm p) : (∃ m, FL pl m 0 n t) ∧ n = p + eL pm p := by
  obtain ⟨⟨m, hm⟩, h0, hr0, h1, h2⟩ := h
  obtain ⟨o1, o2, o3, o4, o5⟩ := ho
  unfold rN at hr
  unfold eL
  rcases h2 with ⟨h2, h3, h4, h5, h6⟩ | ⟨h2, h3, h4⟩
  · rw [if_pos (by omega)] at hr ⊢
    have hl : eL pl p = 2 + c := by rw [el_3 (by omega), h3]
    have hp : eP pl p = su_ pl (p + 2) c.toNat := by rw [ep_3 (by omega), h3]
    have := FL_app hm (show eO pl p from ⟨by omega, by omega, by omega, fun z => by omega, fun _ i i0 i1 => h5 i i0 (by omega)⟩)
    rw [hl, hp] at this
    refine ⟨⟨m + 1, ?_⟩, by omega⟩
    rw [h6, show row = c by omega, show n = p + (2 + c) by omega]; exact this
  · rw [if_neg (by omega)] at hr ⊢
    refine ⟨?_, by omega⟩
    have hl : eL pl p = 2 := el_n (by omega)
    rcases h4 with ⟨h5, h6, h7⟩ | ⟨h5, h6, h7, h8⟩
    · have hk3 : 3 < k := by
        by_cases z : pm p < 3
        · rw [if_pos z] at hr; omega
        · omega
      have := FL_app hm (show eO pl p from ⟨by omega, by omega, by omega, fun z => by omega, fun z => by omega⟩)
      rw [hl, ep_g (by omega)] at this
      exact ⟨m + 1, by rw [h7, h3, ← Int.add_zero T]; exact this⟩
    · have := FL_app hm (show eO pl p from ⟨by omega, by omega, by omega, fun z => by have := o4 (by omega); omega, fun z => by omega⟩)
      rw [hl, ep_l (by omega)] at this
      exact ⟨m + 1, by rw [h8, h3]; exact this⟩
end THN
section SPN
theorem q_idv64 {x : Int} (h0 : 0 ≤ x) (h1 : x ≤ 264196) : q_idv x 64 = x / 64 := by
  unfold q_idv
  rw [w32_of (x := x) (by omega) (by omega), w32_of (x := 64) (by decide) (by decide)]
  exact Int.tdiv_eq_ediv_of_nonneg h0
def PRx (σ : SG) (n a : Int) : Prop := ∀ k, 0 ≤ k → k ≤ n → k ≠ a → 0 ≤ σ kP_round k ∧ σ kP_round k < σ kP_places 0
theorem PRx_0 {σ : SG} (g : PRs σ) : PRx σ (σ kP_roundSize 0) (σ kP_roundSize 0) := fun k a b c => g k a (by omega)
theorem PRx_mv {σ τ : SG} {n a : Int} (h : PRx σ n a) (e : τ = sg σ kP_round a (σ kP_round (a - 1))) (h0 : 0 < a) (h1 : a ≤ n) : PRx τ n (a + -1) := by
  intro k k0 k1 k2
  rw [show τ kP_places 0 = σ kP_places 0 by rw [e, sg_nc (by decide)], e]
  by_cases z : k = a
  · rw [z, sg_at]; exact h (a - 1) (by omega) (by omega) (by omega)
  · rw [sg_ni z]; exact h k k0 k1 z
theorem PRx_end {σ s1 τ : SG} {n a p : Int} (h : PRx σ n a) (e1 : s1 = sg σ kP_round a p) (e2 : τ = sg s1 kP_roundSize 0 (s1 kP_roundSize 0 + 1)) (hr : σ kP_roundSize 0 = n) (hp : 0 ≤ p ∧ p < σ kP_places 0) : PRs τ := by
  intro k k0 k1
  rw [show τ kP_roundSize 0 = n + 1 by rw [e2, sg_at, e1, sg_nc (by decide), hr]] at k1
  rw [show τ kP_places 0 = σ kP_places 0 by rw [e2, sg_nc (by decide), e1, sg_nc (by decide)], e2, sg_nc (by decide), e1]
  by_cases z : k = a
  · rw [z, sg_at]; exact hp
  · rw [sg_ni z]; exact h k k0 (by omega) z
/-- the plan of a hull with c corners -/
def SP_ (pl : Int → Int) (n c : Int) : Prop := (c = 0 ∧ n = 2 ∧ pl 0 = 7 ∧ pl 1 = 0) ∨ ((c = 1 ∨ c = 2) ∧ n = 2 ∧ pl 0 = c ∧ pl 1 = c) ∨ (3 ≤ c ∧ n = 3 ∧ pl 0 = 3 ∧ pl 1 = 1 ∧ pl 2 = c + 1)
theorem SP_fl {pl : Int → Int} {n c : Int} (h : SP_ pl n c) : ∃ m, FL pl m 0 n (if c < 3 then c else c + 1) := by
  rcases h with ⟨h1, h2, h3, h4⟩ | ⟨h1, h2, h3, h4⟩ | ⟨h1, h2, h3, h4, h5⟩
  · have := FL_app (pl := pl) (m := 0) (p := 0) (q := 0) (t := 0) ⟨rfl, rfl⟩ ⟨by omega, by omega, by show 0 ≤ pl 1 ∧ pl 1 ≤ 2048; omega, fun z => by omega, fun z => by omega⟩
    rw [el_n (by omega), ep_g (by omega)] at this
    exact ⟨1, by rw [h2, if_pos (by omega), h1]; exact this⟩
  · have := FL_app (pl := pl) (m := 0) (p := 0) (q := 0) (t := 0) ⟨rfl, rfl⟩ ⟨by omega, by omega, by show 0 ≤ pl 1 ∧ pl 1 ≤ 2048; omega, fun z => by show pl 1 ≤ 1; omega, fun z => by omega⟩
    rw [el_n (by omega), ep_l (by omega)] at this
    refine ⟨1, ?_⟩
    rw [h2, if_pos (by omega), show c = 0 + pl (0 + 1) by show c = 0 + pl 1; omega]; exact this
  · have := FL_app (pl := pl) (m := 0) (p := 0) (q := 0) (t := 0) ⟨rfl, rfl⟩ ⟨by omega, by omega, by show 0 ≤ pl 1 ∧ pl 1 ≤ 2048; omega, fun z => by omega, fun z k k0 k1 => by
      have k1 : k < pl 1 := k1
      rw [show (0 : Int) + 2 + k = 2 by omega]; omega⟩
    have hs : su_ pl (0 + 2) (pl (0 + 1)).toNat = c + 1 := by
      show su_ pl 2 (pl 1).toNat = c + 1
      rw [h4]; show 0 + pl (2 + 0) = c + 1
      rw [show (2 : Int) + 0 = 2 by decide]; omega
    rw [el_3 h3, ep_3 h3, hs] at this
    refine ⟨1, ?_⟩
    rw [h2, if_neg (by omega), show (3 : Int) = 0 + (2 + pl (0 + 1)) by show (3 : Int) = 0 + (2 + pl 1); omega, ← Int.zero_add (c + 1)]; exact this
/-- one more triangle -/
theorem TT_go {pl pm : Int → Int} {n t : Int} (h : ∃ m, FL pl m 0 n t) (e1 : pm n = 3) (e2 : pm (n + 1) = 1) (e3 : pm (n + 2) = 4) (e4 : ∀ i, i < n → pm i = pl i) : ∃ m, FL pm m 0 (n + 3) (t + 4) := by
  obtain ⟨m, hm⟩ := h
  have := FL_app (FL_cg hm (fun i i0 i1 => e4 i i1)) (show eO pm n from ⟨by omega, by omega, by omega, fun z => by omega, fun z k k0 k1 => by rw [show n + 2 + k = n + 2 by omega]; omega⟩)
  have hs : su_ pm (n + 2) (pm (n + 1)).toNat = 4 := by
    rw [e2]; show 0 + pm (n + 2 + 0) = 4
    rw [Int.add_zero]; omega
  rw [el_3 e1, ep_3 e1, hs, e2] at this
  exact ⟨m + 1, this⟩
end SPN
section UNI
theorem uNit_b {x : Int} (h : 0 ≤ x ∧ x < 4) : 1 ≤ uNit x ∧ uNit x ≤ 1000 := by
  have : x = 0 ∨ x = 1 ∨ x = 2 ∨ x = 3 := by omega
  rcases this with rfl | rfl | rfl | rfl <;> decide
theorem getD_P {α : Type} {P : α → Prop} {l : List α} {d : α} (h : ∀ x ∈ l, P x) (hd : P d) (i : Nat) : P (l.getD i d) := by
  rw [List.getD_eq_getElem?_getD]
  cases e : l[i]? with
  | none => exact hd
  | some x => exact h x (List.mem_of_getElem? e)
theorem sBy_b : sBy.all (fun l => l.all (fun x => decide (0 ≤ x) && decide (x ≤ 65535))) = true := by decide +kernel
theorem sChr_b (w : Nat) (j : Int) : 0 ≤ sChr w j ∧ sChr w j ≤ 65535 := by
  unfold sChr
  have h : ∀ x ∈ sBy.getD (w - 1) [], 0 ≤ x ∧ x ≤ 65535 := getD_P (P := fun l => ∀ x ∈ l, 0 ≤ x ∧ x ≤ 65535) (fun l hl x hx => by
    have a := List.all_eq_true.mp sBy_b l hl
    have b := Bool.and_eq_true_iff.mp (List.all_eq_true.mp a x hx)
    exact ⟨of_decide_eq_true b.1, of_decide_eq_true b.2⟩) (fun x hx => by cases hx) _
  exact getD_P (P := fun x => 0 ≤ x ∧ x ≤ 65535) h ⟨Int.le_refl _, by decide⟩ _
theorem sLen_b : ∀ w : Nat, w < 12 → 0 ≤ sLen w ∧ sLen w ≤ 90 := by decide +kernel
end UNI
section UN2
theorem q_idv10 {x : Int} (h0 : 0 ≤ x) (h1 : x ≤ 2147483647) : q_idv x 10 = x / 10 := by
  unfold q_idv
  rw [w32_of (x := x) (by omega) (by omega), w32_of (x := 10) (by decide) (by decide)]
  exact Int.tdiv_eq_ediv_of_nonneg h0
theorem wordFor_b (x : Int) : isW (fO_wordFor x) ∧ fO_wordFor x < 12 := by
  unfold fO_wordFor
  repeat' split
  all_goals decide
end UN2
