section SNL
def nN (σ : SG) : Nat := (σ kR_hots 0).toNat
def nM (σ : SG) : Nat := (σ kR_pieces 0).toNat
def nX (σ : SG) : Nat → Rat := fun w => ((σ kR_hotX w : Int) : Rat)
def nY (σ : SG) : Nat → Rat := fun w => ((σ kR_hotY w : Int) : Rat)
def nF (σ : SG) : Nat → Nat := fun k => (σ kR_pieceFrom k).toNat
def nT (σ : SG) : Nat → Nat := fun k => (σ kR_pieceTo k).toNat
def nb (σ : SG) (β : Bool) : Nat → Bool := fun k => bq_ β (σ kR_pieceBits k)
/-- hot places are near, the pieces lie between them, sorted -/
def NP (σ : SG) : Prop := (∀ g, 0 ≤ g → g < σ kR_hots 0 → nr_ (σ kR_hotX g) ∧ nr_ (σ kR_hotY g)) ∧ PO (σ kR_hots 0) σ
def uj_ (below : Bool) (X Y : Nat → Rat) (F T : Nat → Nat) (p1 p2 : Rat) (j : Nat) : Bool := if below = true then dn_j X Y F T p1 p2 j else up_j X Y F T p1 p2 j
def mi_ (below : Bool) (σ : SG) (β : Bool) (k : Nat) : Bool := if below = true then md_ (nM σ) (nX σ) (nY σ) (nF σ) (nT σ) (nb σ β) k else mu_ (nM σ) (nX σ) (nY σ) (nF σ) (nT σ) (nb σ β) k
theorem mi_eq (below : Bool) (σ : SG) (β : Bool) (k : Nat) : mi_ below σ β k = xs_ (nM σ) (fun j => nb σ β j && (!(j == k) && uj_ below (nX σ) (nY σ) (nF σ) (nT σ) (mx_ (nX σ) (nF σ) (nT σ) k) (mx_ (nY σ) (nF σ) (nT σ) k) j)) := by cases below <;> rfl
theorem ixo_b2 {x b : Int} (x0 : 0 ≤ x) (x1 : x ≤ 3) (b0 : 0 ≤ b) (b1 : b ≤ 3) : (0 ≤ q_ixo x b ∧ q_ixo x b ≤ 3) ∧ ∀ β, bq_ β (q_ixo x b) = Bool.xor (bq_ β x) (bq_ β b) := by
  have key : ∀ m c : Fin 4, (0 ≤ q_ixo (m.val : Int) (c.val : Int) ∧ q_ixo (m.val : Int) (c.val : Int) ≤ 3) ∧ ∀ β, bq_ β (q_ixo (m.val : Int) (c.val : Int)) = Bool.xor (bq_ β (m.val : Int)) (bq_ β (c.val : Int)) := by decide +kernel
  have hx : ((⟨x.toNat, by omega⟩ : Fin 4).val : Int) = x := by show ((x.toNat : Nat) : Int) = x; omega
  have hb : ((⟨b.toNat, by omega⟩ : Fin 4).val : Int) = b := by show ((b.toNat : Nat) : Int) = b; omega
  have := key ⟨x.toNat, by omega⟩ ⟨b.toNat, by omega⟩
  rw [hx, hb] at this
  exact this
theorem hf_le {a c d : Int} : (((a : Int) : Rat) ≤ (((c : Int) : Rat) + ((d : Int) : Rat)) * (1 / 2) ↔ 2 * a ≤ c + d) ∧ (((a : Int) : Rat) < (((c : Int) : Rat) + ((d : Int) : Rat)) * (1 / 2) ↔ 2 * a < c + d) ∧ ((((c : Int) : Rat) + ((d : Int) : Rat)) * (1 / 2) ≤ ((a : Int) : Rat) ↔ c + d ≤ 2 * a) ∧ ((((c : Int) : Rat) + ((d : Int) : Rat)) * (1 / 2) < ((a : Int) : Rat) ↔ c + d < 2 * a) := by
  have e1 : ((2 * a : Int) : Rat) = 2 * ((a : Int) : Rat) := by rw [Rat.intCast_mul]; rfl
  have e2 : ((c + d : Int) : Rat) = ((c : Int) : Rat) + ((d : Int) : Rat) := Rat.intCast_add _ _
  refine ⟨⟨fun h => ?_, fun h => ?_⟩, ⟨fun h => ?_, fun h => ?_⟩, ⟨fun h => ?_, fun h => ?_⟩, ⟨fun h => ?_, fun h => ?_⟩⟩
  · exact Rat.intCast_le_intCast.mp (by rw [e1, e2]; grind)
  · have := Rat.intCast_le_intCast.mpr h; rw [e1, e2] at this; grind
  · exact Rat.intCast_lt_intCast.mp (by rw [e1, e2]; grind)
  · have := Rat.intCast_lt_intCast.mpr h; rw [e1, e2] at this; grind
  · exact Rat.intCast_le_intCast.mp (by rw [e1, e2]; grind)
  · have := Rat.intCast_le_intCast.mpr h; rw [e1, e2] at this; grind
  · exact Rat.intCast_lt_intCast.mp (by rw [e1, e2]; grind)
  · have := Rat.intCast_lt_intCast.mpr h; rw [e1, e2] at this; grind
theorem hf_tr {a1 a2 b1 b2 c1 d1 c2 d2 : Int} : 0 < tr_ (a1 : Int) (a2 : Int) (b1 : Int) (b2 : Int) ((((c1 : Int) : Rat) + ((d1 : Int) : Rat)) * (1 / 2)) ((((c2 : Int) : Rat) + ((d2 : Int) : Rat)) * (1 / 2)) ↔ 0 < oi_ (2 * a1) (2 * a2) (2 * b1) (2 * b2) (c1 + d1) (c2 + d2) := by
  have e2 : ∀ c d : Int, ((c + d : Int) : Rat) = ((c : Int) : Rat) + ((d : Int) : Rat) := Rat.intCast_add
  have e1 : ∀ a : Int, ((2 * a : Int) : Rat) = 2 * ((a : Int) : Rat) := fun a => by rw [Rat.intCast_mul]; rfl
  have key : ((oi_ (2 * a1) (2 * a2) (2 * b1) (2 * b2) (c1 + d1) (c2 + d2) : Int) : Rat) = 4 * tr_ (a1 : Int) (a2 : Int) (b1 : Int) (b2 : Int) ((((c1 : Int) : Rat) + ((d1 : Int) : Rat)) * (1 / 2)) ((((c2 : Int) : Rat) + ((d2 : Int) : Rat)) * (1 / 2)) := by
    rw [c_oi]
    unfold tr_
    rw [e1, e1, e1, e1, e2, e2]
    grind
  constructor
  · intro h; exact c_posr (by rw [key]; grind)
  · intro h
    have := c_pos h
    rw [key] at this; grind
/-- one piece beside the middle of another -/
theorem uj_int {σ : SG} (hp : NP σ) (below : Bool) {k j : Int} (k0 : 0 ≤ k) (k1 : k < σ kR_pieces 0) (j0 : 0 ≤ j) (j1 : j < σ kR_pieces 0) (lo hi : Int) (elo : lo = if σ kR_hotY (σ kR_pieceFrom j) < σ kR_hotY (σ kR_pieceTo j) then σ kR_pieceFrom j else σ kR_pieceTo j) (ehi : hi = if σ kR_hotY (σ kR_pieceFrom j) < σ kR_hotY (σ kR_pieceTo j) then σ kR_pieceTo j else σ kR_pieceFrom j) :
    uj_ below (nX σ) (nY σ) (nF σ) (nT σ) (mx_ (nX σ) (nF σ) (nT σ) k.toNat) (mx_ (nY σ) (nF σ) (nT σ) k.toNat) j.toNat = true ↔ (if below = true then (2 * σ kR_hotY lo < σ kR_hotY (σ kR_pieceFrom k) + σ kR_hotY (σ kR_pieceTo k) ∧ σ kR_hotY (σ kR_pieceFrom k) + σ kR_hotY (σ kR_pieceTo k) ≤ 2 * σ kR_hotY hi) else (2 * σ kR_hotY lo ≤ σ kR_hotY (σ kR_pieceFrom k) + σ kR_hotY (σ kR_pieceTo k) ∧ σ kR_hotY (σ kR_pieceFrom k) + σ kR_hotY (σ kR_pieceTo k) < 2 * σ kR_hotY hi)) ∧ 0 < oi_ (2 * σ kR_hotX lo) (2 * σ kR_hotY lo) (2 * σ kR_hotX hi) (2 * σ kR_hotY hi) (σ kR_hotX (σ kR_pieceFrom k) + σ kR_hotX (σ kR_pieceTo k)) (σ kR_hotY (σ kR_pieceFrom k) + σ kR_hotY (σ kR_pieceTo k)) := by
  obtain ⟨-, pr, -⟩ := hp
  have rk := pr k k0 k1
  have rj := pr j j0 j1
  have tk : ((k.toNat : Nat) : Int) = k := by omega
  have tj : ((j.toNat : Nat) : Int) = j := by omega
  have f1 : ((nF σ k.toNat : Nat) : Int) = σ kR_pieceFrom k := by unfold nF; rw [tk]; omega
  have f2 : ((nT σ k.toNat : Nat) : Int) = σ kR_pieceTo k := by unfold nT; rw [tk]; omega
  have f3 : ((nF σ j.toNat : Nat) : Int) = σ kR_pieceFrom j := by unfold nF; rw [tj]; omega
  have f4 : ((nT σ j.toNat : Nat) : Int) = σ kR_pieceTo j := by unfold nT; rw [tj]; omega
  have l1 : ((lo_ (nY σ) (nF σ) (nT σ) j.toNat : Nat) : Int) = lo := by
    unfold lo_ nY
    rw [f3, f4, elo]
    by_cases c : σ kR_hotY (σ kR_pieceFrom j) < σ kR_hotY (σ kR_pieceTo j)
    · rw [if_pos c, if_pos (Rat.intCast_lt_intCast.mpr c)]; exact f3
    · rw [if_neg c, if_neg (fun q => c (Rat.intCast_lt_intCast.mp q))]; exact f4
  have l2 : ((hi_ (nY σ) (nF σ) (nT σ) j.toNat : Nat) : Int) = hi := by
    unfold hi_ nY
    rw [f3, f4, ehi]
    by_cases c : σ kR_hotY (σ kR_pieceFrom j) < σ kR_hotY (σ kR_pieceTo j)
    · rw [if_pos c, if_pos (Rat.intCast_lt_intCast.mpr c)]; exact f4
    · rw [if_neg c, if_neg (fun q => c (Rat.intCast_lt_intCast.mp q))]; exact f3
  unfold uj_ dn_j up_j
  generalize lo_ (nY σ) (nF σ) (nT σ) j.toNat = a at *
  generalize hi_ (nY σ) (nF σ) (nT σ) j.toNat = b at *
  unfold mx_ nX nY
  rw [f1, f2, l1, l2]
  cases below
  · rw [if_neg (by decide), if_neg (by decide), decide_eq_true_iff, hf_le.1, hf_le.2.2.2, hf_tr]
  · rw [if_pos rfl, if_pos rfl, decide_eq_true_iff, hf_le.2.1, hf_le.2.2.1, hf_tr]
theorem v_insideOf {σ : SG} {k : Int} {below : Bool} (hσ : II σ) (hp : NP σ) (k0 : 0 ≤ k) (k1 : k < σ kR_pieces 0) : wp_ (fR_insideOf σ k below) (fun v => 0 ≤ v ∧ v ≤ 3 ∧ ∀ β, bq_ β v = mi_ below σ β k.toNat) := by
  unfold fR_insideOf
  have bp := ii_kR_pieces hσ 0
  have bh := ii_kR_hots hσ 0
  obtain ⟨near, pr, po⟩ := hp
  have rk := pr k k0 k1
  have n1 := near (σ kR_pieceFrom k) (by omega) (by omega)
  have n2 := near (σ kR_pieceTo k) (by omega) (by omega)
  unfold nr_ at n1 n2
  rw [w32_of (x := k) (by omega) (by omega)]
  refine wp_rd k0 (by omega) ?_
  rw [w32_of (x := σ kR_pieceFrom k) (by omega) (by omega)]
  refine wp_rd (by omega) (by omega) (wp_rd k0 (by omega) ?_)
  rw [w32_of (x := σ kR_pieceTo k) (by omega) (by omega)]
  refine wp_rd (by omega) (by omega) (wp_rd k0 (by omega) ?_)
  rw [w32_of (x := σ kR_pieceFrom k) (by omega) (by omega)]
  refine wp_rd (by omega) (by omega) (wp_rd k0 (by omega) ?_)
  rw [w32_of (x := σ kR_pieceTo k) (by omega) (by omega)]
  refine wp_rd (by omega) (by omega) ?_
  refine wp_bd (P := fun s => 0 ≤ s.1 ∧ s.1 ≤ 3 ∧ ∀ β, bq_ β s.1 = mi_ below σ β k.toNat) ?_ (fun s _ h => wp_some h)
  refine wp_whl (fun s => (0 ≤ s.1 ∧ s.1 ≤ 3) ∧ 0 ≤ s.2 ∧ s.2 ≤ σ kR_pieces 0 ∧ ∀ β, bq_ β s.1 = xs_ s.2.toNat (fun j => nb σ β j && (!(j == k.toNat) && uj_ below (nX σ) (nY σ) (nF σ) (nT σ) (mx_ (nX σ) (nF σ) (nT σ) k.toNat) (mx_ (nY σ) (nF σ) (nT σ) k.toNat) j))) (fun s => (σ kR_pieces 0 - s.2).toNat) ⟨by decide, Int.le_refl 0, bp.1, fun β => bq_0 β⟩ ?_
  rintro ⟨bits, j⟩ ⟨b0, j0, j1, hb⟩
  dsimp only at b0 j0 j1 hb ⊢
  rw [w32_of (x := j) (by omega) (by omega), w32_of (x := σ kR_pieces 0) (by omega) (by omega)]
  refine wp_if (fun g => ?_) (fun g => wp_ir ⟨b0.1, b0.2, fun β => by rw [hb β, mi_eq]; unfold nM; rw [show j = σ kR_pieces 0 by omega]⟩)
  have tj : (j + 1).toNat = j.toNat + 1 := by omega
  have tj2 : ((j.toNat : Nat) : Int) = j := by omega
  -- what one more piece does
  have step : ∀ bits', (0 ≤ bits' ∧ bits' ≤ 3) → (∀ β, bq_ β bits' = Bool.xor (bq_ β bits) (nb σ β j.toNat && (!(j.toNat == k.toNat) && uj_ below (nX σ) (nY σ) (nF σ) (nT σ) (mx_ (nX σ) (nF σ) (nT σ) k.toNat) (mx_ (nY σ) (nF σ) (nT σ) k.toNat) j.toNat))) → ((0 ≤ bits' ∧ bits' ≤ 3) ∧ 0 ≤ j + 1 ∧ j + 1 ≤ σ kR_pieces 0 ∧ ∀ β, bq_ β bits' = xs_ (j + 1).toNat (fun j => nb σ β j && (!(j == k.toNat) && uj_ below (nX σ) (nY σ) (nF σ) (nT σ) (mx_ (nX σ) (nF σ) (nT σ) k.toNat) (mx_ (nY σ) (nF σ) (nT σ) k.toNat) j))) ∧ (σ kR_pieces 0 - (j + 1)).toNat < (σ kR_pieces 0 - j).toNat := by
    intro bits' hb' hx
    refine ⟨⟨hb', by omega, by omega, fun β => ?_⟩, by omega⟩
    rw [hx β, hb β, tj]
    rfl
  refine wp_if (fun gk => ?_) (fun gk => ?_)
  · refine wp_il (step bits b0 (fun β => ?_))
    rw [gk]
    simp
  have rj := pr j j0 g
  have bj := ii_kR_pieceBits hσ j
  have m1 := near (σ kR_pieceFrom j) (by omega) (by omega)
  have m2 := near (σ kR_pieceTo j) (by omega) (by omega)
  refine wp_rd j0 (by omega) ?_
  rw [w32_of (x := σ kR_pieceBits j) (by omega) (by omega)]
  have nbj : ∀ β, nb σ β j.toNat = bq_ β (σ kR_pieceBits j) := fun β => by unfold nb; rw [tj2]
  refine wp_if (fun gz => ?_) (fun gz => ?_)
  · refine wp_il (step bits b0 (fun β => ?_))
    rw [nbj, gz, bq_0]
    simp
  refine wp_bd (P := fun v => v = if σ kR_hotY (σ kR_pieceFrom j) < σ kR_hotY (σ kR_pieceTo j) then σ kR_pieceFrom j else σ kR_pieceTo j) ?_ ?_
  · refine wp_rd j0 (by omega) ?_
    rw [w32_of (x := σ kR_pieceFrom j) (by omega) (by omega)]
    refine wp_rd (by omega) (by omega) (wp_rd j0 (by omega) ?_)
    rw [w32_of (x := σ kR_pieceTo j) (by omega) (by omega)]
    refine wp_rd (by omega) (by omega) ?_
    unfold nr_ at m1 m2
    rw [w64_of (x := σ kR_hotY (σ kR_pieceFrom j)) (by omega) (by omega), w64_of (x := σ kR_hotY (σ kR_pieceTo j)) (by omega) (by omega)]
    refine wp_if (fun c => ?_) (fun c => ?_)
    · exact wp_rd j0 (by omega) (wp_some (by rw [if_pos c]))
    · exact wp_rd j0 (by omega) (wp_some (by rw [if_neg c]))
  rintro lo - elo
  have blo : 0 ≤ lo ∧ lo < σ kR_hots 0 := by rw [elo]; split <;> omega
  refine wp_bd (P := fun v => v = if σ kR_hotY (σ kR_pieceFrom j) < σ kR_hotY (σ kR_pieceTo j) then σ kR_pieceTo j else σ kR_pieceFrom j) ?_ ?_
  · refine wp_rd j0 (by omega) ?_
    rw [w32_of (x := lo) (by omega) (by omega), w32_of (x := σ kR_pieceFrom j) (by omega) (by omega)]
    refine wp_if (fun c => ?_) (fun c => ?_)
    · refine wp_rd j0 (by omega) (wp_some ?_)
      by_cases d : σ kR_hotY (σ kR_pieceFrom j) < σ kR_hotY (σ kR_pieceTo j)
      · rw [if_pos d]
      · rw [if_neg d] at elo; omega
    · refine wp_rd j0 (by omega) (wp_some ?_)
      by_cases d : σ kR_hotY (σ kR_pieceFrom j) < σ kR_hotY (σ kR_pieceTo j)
      · rw [if_pos d] at elo; omega
      · rw [if_neg d]
  rintro hi - ehi
  have bhi : 0 ≤ hi ∧ hi < σ kR_hots 0 := by rw [ehi]; split <;> omega
  have q1 := near lo blo.1 blo.2
  have q2 := near hi bhi.1 bhi.2
  have key := uj_int ⟨near, pr, po⟩ below k0 k1 j0 g lo hi elo ehi
  unfold nr_ at q1 q2
  rw [w32_of (x := lo) (by omega) (by omega), w32_of (x := hi) (by omega) (by omega)]
  refine wp_rd (by omega) (by omega) (wp_rd (by omega) (by omega) ?_)
  rw [w64_of (x := 2 * σ kR_hotY lo) (by omega) (by omega), w64_of (x := 2 * σ kR_hotY hi) (by omega) (by omega), w64_of (x := σ kR_hotY (σ kR_pieceFrom k) + σ kR_hotY (σ kR_pieceTo k)) (by omega) (by omega)]
  refine wp_lt (fun c hc => ?_)
  have hc2 : c = true ↔ (if below = true then (2 * σ kR_hotY lo < σ kR_hotY (σ kR_pieceFrom k) + σ kR_hotY (σ kR_pieceTo k) ∧ σ kR_hotY (σ kR_pieceFrom k) + σ kR_hotY (σ kR_pieceTo k) ≤ 2 * σ kR_hotY hi) else (2 * σ kR_hotY lo ≤ σ kR_hotY (σ kR_pieceFrom k) + σ kR_hotY (σ kR_pieceTo k) ∧ σ kR_hotY (σ kR_pieceFrom k) + σ kR_hotY (σ kR_pieceTo k) < 2 * σ kR_hotY hi)) := by
    rw [hc]
    cases below
    · rw [if_neg (by decide), if_neg (by decide), decide_eq_true_iff]
    · rw [if_pos rfl, if_pos rfl, decide_eq_true_iff]
  rw [← hc2] at key
  have njk : (j.toNat == k.toNat) = false := by
    rw [beq_eq_false_iff_ne]; omega
  refine wp_bd (P := fun v => (0 ≤ v ∧ v ≤ 3) ∧ ∀ β, bq_ β v = Bool.xor (bq_ β bits) (nb σ β j.toNat && (!(j.toNat == k.toNat) && uj_ below (nX σ) (nY σ) (nF σ) (nT σ) (mx_ (nX σ) (nF σ) (nT σ) k.toNat) (mx_ (nY σ) (nF σ) (nT σ) k.toNat) j.toNat))) ?_ (fun v _ hv => wp_il (step v hv.1 hv.2))
  generalize huj : uj_ below (nX σ) (nY σ) (nF σ) (nT σ) (mx_ (nX σ) (nF σ) (nT σ) k.toNat) (mx_ (nY σ) (nF σ) (nT σ) k.toNat) j.toNat = U at *
  have no : U = false → ∀ β, bq_ β bits = Bool.xor (bq_ β bits) (nb σ β j.toNat && (!(j.toNat == k.toNat) && U)) := by
    intro hU β
    rw [hU]; simp
  refine wp_if (fun gc => ?_) (fun gc => wp_some ⟨b0, no (by cases hU : U with | false => rfl | true => exact absurd (key.mp hU).1 gc)⟩)
  refine wp_rd (by omega) (by omega) (wp_rd (by omega) (by omega) ?_)
  have ts := turn_sg (a1 := 2 * σ kR_hotX lo) (a2 := 2 * σ kR_hotY lo) (b1 := 2 * σ kR_hotX hi) (b2 := 2 * σ kR_hotY hi) (c1 := σ kR_hotX (σ kR_pieceFrom k) + σ kR_hotX (σ kR_pieceTo k)) (c2 := σ kR_hotY (σ kR_pieceFrom k) + σ kR_hotY (σ kR_pieceTo k)) (by omega) (by omega) (by omega) (by omega) (by omega) (by omega)
  rw [w32_of (x := fR_turn (2 * σ kR_hotX lo) (2 * σ kR_hotY lo) (2 * σ kR_hotX hi) (2 * σ kR_hotY hi) (σ kR_hotX (σ kR_pieceFrom k) + σ kR_hotX (σ kR_pieceTo k)) (σ kR_hotY (σ kR_pieceFrom k) + σ kR_hotY (σ kR_pieceTo k))) (by omega) (by omega)]
  refine wp_if (fun gt => ?_) (fun gt => wp_some ⟨b0, no (by cases hU : U with | false => rfl | true => exact absurd (ts.2.2.1.mpr (key.mp hU).2) gt)⟩)
  refine wp_rd j0 (by omega) (wp_some ?_)
  obtain ⟨x1, x2⟩ := ixo_b2 b0.1 b0.2 bj.1 bj.2
  refine ⟨x1, fun β => ?_⟩
  rw [x2 β, nbj, njk, key.mpr ⟨gc, ts.2.2.1.mp gt⟩]
  simp
end SNL
