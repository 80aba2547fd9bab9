section RNG
theorem FCk {ms ss : List Nat} {σ τ : SG} (f : FC ms ss σ τ) {cs : List Nat} (h : dj ms cs = true) {c : Nat} (hc : cs.contains c = true) (hl : 42496 ≤ c) : τ c = σ c := f.1 _ (Or.inr hl) (fun q => by have := dj_c h hc; rw [List.contains_iff_mem.mpr q] at this; cases this)
/-- the rings' corners lie one behind the other -/
def RGs (σ : SG) : Prop := (∀ r, 0 ≤ r → r < σ kG_rings 0 → 0 ≤ σ kG_ringBegin r ∧ σ kG_ringBegin r ≤ σ kG_ringBegin (r + 1) ∧ σ kG_ringBegin (r + 1) ≤ σ kG_corners 0) ∧ (σ kG_rings 0 = 0 ∨ (σ kG_ringBegin (σ kG_rings 0) = σ kG_corners 0 ∧ σ kG_corners 0 + σ kG_rings 0 ≤ 2048))
theorem RGs_f {ms ss : List Nat} {σ τ : SG} (f : FC ms ss σ τ) (h : dj ms [kG_rings, kG_corners, kG_ringBegin] = true) (g : RGs σ) : RGs τ := by
  unfold RGs
  rw [FCk f h (c := kG_rings) (by decide) (by decide), FCk f h (c := kG_corners) (by decide) (by decide), FCk f h (c := kG_ringBegin) (by decide) (by decide)]; exact g
theorem RGs_0 {σ : SG} (h : σ kG_rings 0 = 0) : RGs σ := ⟨fun r a b => by omega, Or.inl h⟩
theorem RGs_take {σ s1 s2 s3 s4 τ : SG} {x ix : Int} (w : RGs σ) (h0 : 0 ≤ σ kG_rings 0) (c0 : 0 ≤ σ kG_corners 0) (e1 : s1 = sg σ kG_ringBegin (σ kG_rings 0) (σ kG_corners 0)) (h : ∀ i, s2 kG_ringBegin i = s1 kG_ringBegin i) (e2 : s3 = sg s2 kG_ringArea ix x) (e3 : s4 = sg s3 kG_rings 0 (s3 kG_rings 0 + 1)) (e4 : τ = sg s4 kG_ringBegin (s4 kG_rings 0) (s4 kG_corners 0)) (r : s2 kG_rings 0 = σ kG_rings 0) (c : σ kG_corners 0 ≤ s2 kG_corners 0) (hz : τ kG_corners 0 + τ kG_rings 0 ≤ 2048) : RGs τ := by
  have r4 : s4 kG_rings 0 = σ kG_rings 0 + 1 := by rw [e3, sg_at, e2, sg_nc (by decide), r]
  have rt : τ kG_rings 0 = σ kG_rings 0 + 1 := by rw [e4, sg_nc (by decide), r4]
  have c4 : s4 kG_corners 0 = s2 kG_corners 0 := by rw [e3, sg_nc (by decide), e2, sg_nc (by decide)]
  have ct : τ kG_corners 0 = s2 kG_corners 0 := by rw [e4, sg_nc (by decide), c4]
  have b : ∀ i, τ kG_ringBegin i = if i = σ kG_rings 0 + 1 then s2 kG_corners 0 else if i = σ kG_rings 0 then σ kG_corners 0 else σ kG_ringBegin i := fun i => by
    rw [e4, r4, c4]
    by_cases z : i = σ kG_rings 0 + 1
    · rw [if_pos z, z, sg_at]
    · rw [if_neg z, sg_ni z, e3, sg_nc (by decide), e2, sg_nc (by decide), h, e1]
      by_cases y : i = σ kG_rings 0
      · rw [if_pos y, y, sg_at]
      · rw [if_neg y, sg_ni y]
  obtain ⟨g1, g2⟩ := w
  refine ⟨fun q q0 q1 => ?_, Or.inr ⟨?_, hz⟩⟩
  · rw [rt] at q1
    rw [ct, b, b]
    by_cases y : q = σ kG_rings 0
    · rw [if_neg (by omega), if_pos y, if_pos (by omega)]; omega
    · rw [if_neg (by omega), if_neg y, if_neg (by omega)]
      have := g1 q q0 (by omega)
      by_cases z : q + 1 = σ kG_rings 0
      · rw [if_pos z]
        rcases g2 with g2 | ⟨g2, -⟩
        · omega
        · rw [← z] at g2; omega
      · rw [if_neg z]; omega
  · rw [rt, b, if_pos rfl, ct]
theorem RGs_lt {σ : SG} (w : RGs σ) {r : Int} (r0 : 0 ≤ r) (r1 : r < σ kG_rings 0) : 0 ≤ σ kG_ringBegin r ∧ σ kG_ringBegin r ≤ σ kG_ringBegin (r + 1) ∧ σ kG_ringBegin (r + 1) ≤ 2047 := by
  have := w.1 r r0 r1
  rcases w.2 with h | ⟨-, h⟩ <;> omega
/-- what stands in the order ends with a ring's number -/
def ORr (σ : SG) (n m : Int) : Prop := ∀ k, 0 ≤ k → k < n → 0 ≤ q_lan (σ kG_order k) 511 ∧ q_lan (σ kG_order k) 511 < m
theorem ORr_0 (σ : SG) (m : Int) : ORr σ 0 m := fun k a b => by omega
theorem ORr_add {σ τ : SG} {n m c s r : Int} (g : ORr σ n m) (e : τ = sg σ kG_order n (q_lor (q_lsl (q_lor (q_lsl c 32) s) 9) r)) (hc : 0 ≤ c ∧ c ≤ 8191) (hs : 0 ≤ s ∧ s ≤ 8191) (hr : 0 ≤ r ∧ r < m) (hm : m ≤ 512) : ORr τ (n + 1) m := by
  intro k k0 k1
  rw [e]
  by_cases z : k = n
  · rw [z, sg_at]
    have e1 : q_lor (q_lsl c 32) s = c * 4294967296 + s := lor_lsl (k := 32) (by decide) (by show _ ≤ c * 4294967296; omega) (by show c * 4294967296 + s < _; omega) hs.1 (by show s < 4294967296; omega)
    have e2 : q_lor (q_lsl (c * 4294967296 + s) 9) r = (c * 4294967296 + s) * 512 + r := lor_lsl (k := 9) (by decide) (by show _ ≤ (c * 4294967296 + s) * 512; omega) (by show (c * 4294967296 + s) * 512 + r < _; omega) hr.1 (by show r < 512; omega)
    rw [e1, e2, lan511]; omega
  · rw [sg_ni z]; exact g k k0 (by omega)
theorem ORr_sb {σ τ : SG} {n m : Int} (g : ORr σ n m) (s : SB (221 * 256) n σ τ) : ORr τ n m := fun k k0 k1 => by
  obtain ⟨j, j0, j1, e⟩ := s.1 k k0 k1
  have e2 : τ kG_order k = σ kG_order j := e
  rw [e2]; exact g j j0 j1
theorem ORr_f {ms ss : List Nat} {σ τ : SG} {n m : Int} (f : FC ms ss σ τ) (h : dj ms [kG_order] = true) (g : ORr σ n m) : ORr τ n m := by
  unfold ORr
  rw [FCk f h (c := kG_order) (by decide) (by decide)]; exact g
/-- a flat plan whose last entry is a polygon with c rings -/
def PO_ (pl : Int → Int) (p T n t c : Int) : Prop := (∃ m, FL pl m 0 p T) ∧ 0 ≤ p ∧ pl p = 3 ∧ pl (p + 1) = c ∧ 0 ≤ c ∧ n = p + 2 + c ∧ (∀ k, 0 ≤ k → k < c → 0 ≤ pl (p + 2 + k)) ∧ t = T + su_ pl (p + 2) c.toNat
theorem PO_fl {pl : Int → Int} {p T n t c : Int} (h : PO_ pl p T n t c) (hc : c ≤ 2048) : ∃ m, FL pl m 0 n t := by
  obtain ⟨⟨m, hm⟩, h0, h1, h2, h3, h4, h5, h6⟩ := h
  have hl : eL pl p = 2 + c := by rw [el_3 h1, h2]
  have hp : eP pl p = su_ pl (p + 2) c.toNat := by rw [ep_3 h1, h2]
  have := FL_app hm (show eO pl p from ⟨by omega, by omega, by omega, fun z => by omega, fun _ k k0 k1 => h5 k k0 (by omega)⟩)
  rw [hl, hp] at this
  refine ⟨m + 1, ?_⟩
  rw [show n = p + (2 + c) by omega, h6]; exact this
theorem PO_ring {pl pm : Int → Int} {p T n t c L : Int} (h : PO_ pl p T n t c) (hL : 0 ≤ L) (e1 : pm (p + 1) = c + 1) (e2 : pm n = L) (e3 : ∀ i, i ≠ p + 1 → i ≠ n → pm i = pl i) : PO_ pm p T (n + 1) (t + L) (c + 1) := by
  obtain ⟨⟨m, hm⟩, h0, h1, h2, h3, h4, h5, h6⟩ := h
  have hle := FL_le hm
  refine ⟨⟨m, FL_cg hm (fun i i0 i1 => e3 i (by omega) (by omega))⟩, h0, by rw [e3 p (by omega) (by omega)]; exact h1, e1, by omega, by omega, fun k k0 k1 => ?_, ?_⟩
  · by_cases z : k = c
    · rw [show p + 2 + k = n by omega, e2]; exact hL
    · rw [e3 _ (by omega) (by omega)]; exact h5 k k0 (by omega)
  · rw [su_i h3, show p + 2 + c = n by omega, e2, h6]
    have : su_ pm (p + 2) c.toNat = su_ pl (p + 2) c.toNat := su_cg (fun i i0 i1 => e3 i (by omega) (by omega))
    omega
end RNG
