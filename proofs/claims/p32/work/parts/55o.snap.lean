section SNO
/-- the edges, as one state tells them -/
def EH (τ : SG) (what : Int) (pe : Int → Int) : Prop := (0 ≤ τ kR_edges 0 ∧ τ kR_edges 0 ≤ τ kR_pieces 0) ∧ (∀ e, 0 ≤ e → e < τ kR_edges 0 → (0 ≤ pe e ∧ pe e < τ kR_pieces 0) ∧ ((τ kR_edgeFrom e = τ kR_pieceFrom (pe e) ∧ τ kR_edgeTo e = τ kR_pieceTo (pe e)) ∨ (τ kR_edgeFrom e = τ kR_pieceTo (pe e) ∧ τ kR_edgeTo e = τ kR_pieceFrom (pe e))) ∧ lr_ τ what (τ kR_edgeFrom e).toNat (pe e).toNat = true ∧ rr_ τ what (τ kR_edgeFrom e).toNat (pe e).toNat = false) ∧ (∀ e f, 0 ≤ e → e < f → f < τ kR_edges 0 → pe e < pe f) ∧ ∀ k, 0 ≤ k → k < τ kR_pieces 0 → lr_ τ what (nF τ k.toNat) k.toNat ≠ rr_ τ what (nF τ k.toNat) k.toNat → ∃ e, 0 ≤ e ∧ e < τ kR_edges 0 ∧ pe e = k
theorem EH_of {σ τ : SG} {what : Int} {pe : Int → Int} (h : EG σ τ what (σ kR_pieces 0) pe) (f : FR BL σ τ) : EH τ what pe := by
  obtain ⟨-, e2, e3, e4, e5, e6, e7⟩ := net_fr f
  have el : ∀ w k, lr_ τ what w k = lr_ σ what w k := fun w k => by unfold lr_; rw [e2, e3, e4, e5, e6, e7, e7]
  have er : ∀ w k, rr_ τ what w k = rr_ σ what w k := fun w k => by unfold rr_; rw [e2, e3, e4, e5, e6, e7, e7]
  have ep : τ kR_pieces 0 = σ kR_pieces 0 := FR_at f (by decide) 0
  have e8 : ∀ j, τ kR_pieceFrom j = σ kR_pieceFrom j := FR_at f (by decide)
  have e9 : ∀ j, τ kR_pieceTo j = σ kR_pieceTo j := FR_at f (by decide)
  obtain ⟨h1, h2, h3, h4⟩ := h
  unfold EH
  simp only [el, er, ep, e8, e9, e5]
  exact ⟨h1, fun e e0 e1 => ⟨(h2 e e0 e1).1, (h2 e e0 e1).2.1, (h2 e e0 e1).2.2.1, (h2 e e0 e1).2.2.2.1⟩, h3, h4⟩
def oE (τ : SG) (W k : Int) : Int := if τ kR_edgeFrom k = W then τ kR_edgeTo k else τ kR_edgeFrom k
def vX (τ : SG) (W k : Int) : Int := τ kR_hotX (oE τ W k) - τ kR_hotX W
def vY (τ : SG) (W k : Int) : Int := τ kR_hotY (oE τ W k) - τ kR_hotY W
def fV (τ : SG) (W k : Int) : Int := -1 * vX τ W k + 2000000001 * vY τ W k
def IC (τ : SG) (W k : Int) : Prop := τ kR_edgeFrom k = W ∨ τ kR_edgeTo k = W
theorem EH_ends {τ : SG} {what : Int} {pe : Int → Int} (hp : NP τ) (h : EH τ what pe) {k : Int} (k0 : 0 ≤ k) (k1 : k < τ kR_edges 0) : (pe k).toNat < nM τ ∧ (((nF τ (pe k).toNat : Nat) : Int) = τ kR_pieceFrom (pe k) ∧ ((nT τ (pe k).toNat : Nat) : Int) = τ kR_pieceTo (pe k)) ∧ nF τ (pe k).toNat ≠ nT τ (pe k).toNat ∧ (0 ≤ τ kR_edgeFrom k ∧ τ kR_edgeFrom k < τ kR_hots 0) ∧ (0 ≤ τ kR_edgeTo k ∧ τ kR_edgeTo k < τ kR_hots 0) ∧ τ kR_edgeFrom k ≠ τ kR_edgeTo k := by
  obtain ⟨a, b, -, -⟩ := h.2.1 k k0 k1
  have r := hp.2.1 (pe k) a.1 a.2
  have t : (((pe k).toNat : Nat) : Int) = pe k := by omega
  have f : ((nF τ (pe k).toNat : Nat) : Int) = τ kR_pieceFrom (pe k) := by unfold nF; rw [t]; omega
  have g : ((nT τ (pe k).toNat : Nat) : Int) = τ kR_pieceTo (pe k) := by unfold nT; rw [t]; omega
  refine ⟨by unfold nM; omega, ⟨f, g⟩, by omega, by omega, by omega, by omega⟩
theorem EH_dir {τ : SG} {what : Int} {pe : Int → Int} (hp : NP τ) (h : EH τ what pe) {k W : Int} (k0 : 0 ≤ k) (k1 : k < τ kR_edges 0) (ic : IC τ W k) : ic_ (nF τ) (nT τ) W.toNat (pe k).toNat = true ∧ dx_ (nX τ) (nF τ) (nT τ) W.toNat (pe k).toNat = ((vX τ W k : Int) : Rat) ∧ dy_ (nY τ) (nF τ) (nT τ) W.toNat (pe k).toNat = ((vY τ W k : Int) : Rat) := by
  obtain ⟨hM, ⟨f, g⟩, ne, b1, b2, b3⟩ := EH_ends hp h k0 k1
  obtain ⟨-, mt, -, -⟩ := h.2.1 k k0 k1
  have W0 : 0 ≤ W := by rcases ic with q | q <;> omega
  have tW : ((W.toNat : Nat) : Int) = W := by omega
  have ot : ((ot_ (nF τ) (nT τ) W.toNat (pe k).toNat : Nat) : Int) = oE τ W k := by
    unfold ot_ oE
    by_cases c : nF τ (pe k).toNat = W.toNat
    · rw [if_pos c]
      by_cases d : τ kR_edgeFrom k = W
      · rw [if_pos d]; omega
      · rw [if_neg d]; omega
    · rw [if_neg c]
      by_cases d : τ kR_edgeFrom k = W
      · rw [if_pos d]; omega
      · rw [if_neg d]; unfold IC at ic; omega
  refine ⟨?_, ?_, ?_⟩
  · unfold ic_
    rw [Bool.or_eq_true, beq_iff_eq, beq_iff_eq]
    unfold IC at ic; omega
  · unfold dx_ nX vX
    rw [ot, tW, c_sub]
  · unfold dy_ nY vY
    rw [ot, tW, c_sub]
/-- directions are near and not nothing -/
theorem EH_v {τ : SG} {what : Int} {pe : Int → Int} (hp : NP τ) (ho : HO τ) (h : EH τ what pe) {k W : Int} (k0 : 0 ≤ k) (k1 : k < τ kR_edges 0) (ic : IC τ W k) : (-1000000000 ≤ vX τ W k ∧ vX τ W k ≤ 1000000000) ∧ (-1000000000 ≤ vY τ W k ∧ vY τ W k ≤ 1000000000) ∧ (vX τ W k ≠ 0 ∨ vY τ W k ≠ 0) := by
  obtain ⟨hM, ⟨f, g⟩, ne, b1, b2, b3⟩ := EH_ends hp h k0 k1
  have bo : (0 ≤ oE τ W k ∧ oE τ W k < τ kR_hots 0) ∧ oE τ W k ≠ W ∧ (0 ≤ W ∧ W < τ kR_hots 0) := by
    unfold oE IC at *
    by_cases d : τ kR_edgeFrom k = W
    · rw [if_pos d]; omega
    · rw [if_neg d]; omega
  have n1 := hp.1 (oE τ W k) bo.1.1 bo.1.2
  have n2 := hp.1 W bo.2.2.1 bo.2.2.2
  have n3 := HO_ne ho bo.1.1 bo.1.2 bo.2.2.1 bo.2.2.2 bo.2.1
  unfold nr_ at n1 n2
  unfold vX vY
  omega
theorem EH_hr {τ : SG} {what : Int} {pe : Int → Int} (hp : NP τ) (ho : HO τ) (h : EH τ what pe) {k W : Int} (k0 : 0 ≤ k) (k1 : k < τ kR_edges 0) (ic : IC τ W k) : (hr_ (nX τ) (nY τ) (nF τ) (nT τ) W.toNat (pe k).toNat = true ↔ 0 < fV τ W k) ∧ fV τ W k ≠ 0 := by
  obtain ⟨-, d1, d2⟩ := EH_dir hp h k0 k1 ic
  obtain ⟨v1, v2, v3⟩ := EH_v hp ho h k0 k1 ic
  unfold hr_
  rw [d1, d2, decide_eq_true_iff]
  have z1 : (0 : Rat) < ((vY τ W k : Int) : Rat) ↔ 0 < vY τ W k := ⟨c_posr, c_pos⟩
  have z2 : ((vY τ W k : Int) : Rat) = 0 ↔ vY τ W k = 0 := ⟨fun q => Rat.intCast_inj.mp q, fun q => by rw [q]; rfl⟩
  have z3 : ((vX τ W k : Int) : Rat) < 0 ↔ vX τ W k < 0 := ⟨c_neg, fun q => Rat.intCast_lt_intCast.mpr q⟩
  rw [z1, z2, z3]
  unfold fV
  omega
theorem EH_af {τ : SG} {what : Int} {pe : Int → Int} (hp : NP τ) (ho : HO τ) (h : EH τ what pe) {k j W : Int} (k0 : 0 ≤ k) (k1 : k < τ kR_edges 0) (ick : IC τ W k) (j0 : 0 ≤ j) (j1 : j < τ kR_edges 0) (icj : IC τ W j) : af_ (nX τ) (nY τ) (nF τ) (nT τ) W.toNat (pe k).toNat (pe j).toNat = true ↔ AA (fV τ W k) (fV τ W j) (vX τ W k * vY τ W j - vY τ W k * vX τ W j) := by
  obtain ⟨-, d1, d2⟩ := EH_dir hp h k0 k1 ick
  obtain ⟨-, d3, d4⟩ := EH_dir hp h j0 j1 icj
  obtain ⟨r1, r2⟩ := EH_hr hp ho h k0 k1 ick
  obtain ⟨s1, s2⟩ := EH_hr hp ho h j0 j1 icj
  have cr : cr_ (nX τ) (nY τ) (nF τ) (nT τ) W.toNat (pe k).toNat (pe j).toNat = ((vX τ W k * vY τ W j - vY τ W k * vX τ W j : Int) : Rat) := by
    unfold cr_
    rw [d1, d2, d3, d4, c_sub, Rat.intCast_mul, Rat.intCast_mul]
  have z : cr_ (nX τ) (nY τ) (nF τ) (nT τ) W.toNat (pe k).toNat (pe j).toNat < 0 ↔ vX τ W k * vY τ W j - vY τ W k * vX τ W j < 0 := by rw [cr]; exact ⟨c_neg, fun q => Rat.intCast_lt_intCast.mpr q⟩
  unfold af_ AA
  generalize vX τ W k * vY τ W j - vY τ W k * vX τ W j = C at *
  cases q1 : hr_ (nX τ) (nY τ) (nF τ) (nT τ) W.toNat (pe k).toNat <;> cases q2 : hr_ (nX τ) (nY τ) (nF τ) (nT τ) W.toNat (pe j).toNat <;> rw [q1] at r1 <;> rw [q2] at s1 <;> simp [z] at r1 s1 ⊢ <;> omega
theorem rd_prop {af : Nat → Nat → Bool} {e x y : Nat} : rd1_ af e x y = true ↔ ((af e x = true ∧ (af e y = true → af x y = true)) ∨ (¬ af e x = true ∧ ¬ af e y = true ∧ af x y = true)) := by
  unfold rd1_
  cases af e x <;> cases af e y <;> cases af x y <;> simp
/-- what the program compares is the order round the place -/
theorem EH_ahead {τ : SG} {what : Int} {pe : Int → Int} (hp : NP τ) (ho : HO τ) (hN : NG τ false) (h : EH τ what pe) {e x y W : Int} (e0 : 0 ≤ e) (e1 : e < τ kR_edges 0) (ie : IC τ W e) (x0 : 0 ≤ x) (x1 : x < τ kR_edges 0) (ix : IC τ W x) (y0 : 0 ≤ y) (y1 : y < τ kR_edges 0) (iy : IC τ W y) (ex : e ≠ x) (ey : e ≠ y) (xy : x ≠ y) : fR_isAhead (vX τ W e) (vY τ W e) (vX τ W x) (vY τ W x) (vX τ W y) (vY τ W y) = true ↔ rd1_ (af_ (nX τ) (nY τ) (nF τ) (nT τ) W.toNat) (pe e).toNat (pe x).toNat (pe y).toNat = true := by
  obtain ⟨v1, v2, -⟩ := EH_v hp ho h e0 e1 ie
  obtain ⟨v3, v4, -⟩ := EH_v hp ho h x0 x1 ix
  obtain ⟨v5, v6, -⟩ := EH_v hp ho h y0 y1 iy
  have so := net_so hN W.toNat
  have pn : ∀ j k, 0 ≤ j → j < τ kR_edges 0 → 0 ≤ k → k < τ kR_edges 0 → j ≠ k → (pe j).toNat ≠ (pe k).toNat := by
    intro j k j0 j1 k0 k1 jk
    have a := (h.2.1 j j0 j1).1
    have b := (h.2.1 k k0 k1).1
    rcases Int.lt_trichotomy j k with c | c | c
    · have := h.2.2.1 j k j0 c k1; omega
    · exact absurd c jk
    · have := h.2.2.1 k j k0 c j1; omega
  have par : ∀ j k, 0 ≤ j → j < τ kR_edges 0 → IC τ W j → 0 ≤ k → k < τ kR_edges 0 → IC τ W k → j ≠ k → vX τ W j * vY τ W k - vY τ W j * vX τ W k = 0 → (0 < fV τ W j ↔ ¬ 0 < fV τ W k) := by
    intro j k j0 j1 ij k0 k1 ik jk hz
    have t := so.2.2 (pe j).toNat (pe k).toNat (EH_ends hp h j0 j1).1 (EH_ends hp h k0 k1).1 (EH_dir hp h j0 j1 ij).1 (EH_dir hp h k0 k1 ik).1 (pn j k j0 j1 k0 k1 jk)
    rw [EH_af hp ho h j0 j1 ij k0 k1 ik, EH_af hp ho h k0 k1 ik j0 j1 ij] at t
    have hz2 : vX τ W k * vY τ W j - vY τ W k * vX τ W j = 0 := by grind
    rw [hz, hz2] at t
    have n1 := (EH_hr hp ho h j0 j1 ij).2
    have n2 := (EH_hr hp ho h k0 k1 ik).2
    unfold AA at t
    omega
  have id := @an_id (vX τ W e) (vY τ W e) (vX τ W x) (vY τ W x) (vX τ W y) (vY τ W y) (-1) 2000000001
  rw [isAhead_iff v1 v2 v3 v4 v5 v6, rd_prop, EH_af hp ho h e0 e1 ie x0 x1 ix, EH_af hp ho h e0 e1 ie y0 y1 iy, EH_af hp ho h x0 x1 ix y0 y1 iy]
  exact ahead_key (fe := fV τ W e) (fx := fV τ W x) (fy := fV τ W y) id (EH_hr hp ho h e0 e1 ie).2 (EH_hr hp ho h x0 x1 ix).2 (EH_hr hp ho h y0 y1 iy).2 (par e x e0 e1 ie x0 x1 ix ex) (par e y e0 e1 ie y0 y1 iy ey) (par x y x0 x1 ix y0 y1 iy xy)
end SNO
