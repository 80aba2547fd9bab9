section SNM
abbrev BL : List Nat := [kR_edgeDone, kR_edgeFrom, kR_edgeTo, kR_edges]
def NG (σ : SG) (β : Bool) : Prop := Net_ (nN σ) (nM σ) (nX σ) (nY σ) (nF σ) (nT σ) (nb σ β)
def rs_ (what : Int) (x y : Bool) : Bool := if what = 0 then x && y else if what = 1 then x || y else if what = 2 then x && !y else if what = 3 then Bool.xor x y else !x && y
theorem isRes (what : Int) {v : Int} (v0 : 0 ≤ v) (v1 : v ≤ 3) : fR_isResult what v = rs_ (w32 what) (bq_ false v) (bq_ true v) := by
  unfold fR_isResult rs_ bq_
  rw [w32_of (x := v) (by omega) (by omega)]
  have : v = 0 ∨ v = 1 ∨ v = 2 ∨ v = 3 := by omega
  generalize w32 what = w
  by_cases h0 : w = 0
  · rw [if_pos h0, if_pos h0]; rcases this with q | q | q | q <;> subst q <;> decide
  rw [if_neg h0, if_neg h0]
  by_cases h1 : w = 1
  · rw [if_pos h1, if_pos h1]; rcases this with q | q | q | q <;> subst q <;> decide
  rw [if_neg h1, if_neg h1]
  by_cases h2 : w = 2
  · rw [if_pos h2, if_pos h2]; rcases this with q | q | q | q <;> subst q <;> decide
  rw [if_neg h2, if_neg h2]
  by_cases h3 : w = 3
  · rw [if_pos h3, if_pos h3]; rcases this with q | q | q | q <;> subst q <;> decide
  rw [if_neg h3, if_neg h3]
  rcases this with q | q | q | q <;> subst q <;> decide
def lr_ (σ : SG) (what : Int) (w k : Nat) : Bool := rs_ (w32 what) (lw_ (nM σ) (nX σ) (nY σ) (nF σ) (nT σ) (nb σ false) w k) (lw_ (nM σ) (nX σ) (nY σ) (nF σ) (nT σ) (nb σ true) w k)
def rr_ (σ : SG) (what : Int) (w k : Nat) : Bool := rs_ (w32 what) (rw_ (nM σ) (nX σ) (nY σ) (nF σ) (nT σ) (nb σ false) w k) (rw_ (nM σ) (nX σ) (nY σ) (nF σ) (nT σ) (nb σ true) w k)
/-- seen from the other end the sides change -/
theorem side_sw {m : Nat} {X Y : Nat → Rat} {F T : Nat → Nat} {b : Nat → Bool} {k : Nat} (h : F k ≠ T k) (hd : X (F k) ≠ X (T k) ∨ Y (F k) ≠ Y (T k)) : lw_ m X Y F T b (T k) k = rw_ m X Y F T b (F k) k ∧ rw_ m X Y F T b (T k) k = lw_ m X Y F T b (F k) k := by
  unfold lw_ rw_ dy_ dx_ ot_
  rw [if_neg h, if_pos rfl]
  rcases gm_tri (Y (F k)) (Y (T k)) with q | q | q
  · rw [if_neg (show ¬ 0 < Y (F k) - Y (T k) by grind), if_pos (show Y (F k) - Y (T k) < 0 by grind), if_pos (show 0 < Y (T k) - Y (F k) by grind), if_neg (show ¬ 0 < Y (F k) - Y (T k) by grind), if_pos (show Y (F k) - Y (T k) < 0 by grind), if_pos (show 0 < Y (T k) - Y (F k) by grind)]
    exact ⟨rfl, rfl⟩
  · rw [q]
    simp only [Rat.sub_self]
    rw [if_neg (show ¬ ((0 : Rat) < 0) by decide), if_neg (show ¬ ((0 : Rat) < 0) by decide), if_neg (show ¬ ((0 : Rat) < 0) by decide), if_neg (show ¬ ((0 : Rat) < 0) by decide), if_neg (show ¬ ((0 : Rat) < 0) by decide), if_neg (show ¬ ((0 : Rat) < 0) by decide), if_neg (show ¬ ((0 : Rat) < 0) by decide), if_neg (show ¬ ((0 : Rat) < 0) by decide)]
    rcases gm_tri (X (F k)) (X (T k)) with r | r | r
    · rw [if_neg (show ¬ 0 < X (F k) - X (T k) by grind), if_pos (show 0 < X (T k) - X (F k) by grind), if_neg (show ¬ 0 < X (F k) - X (T k) by grind), if_pos (show 0 < X (T k) - X (F k) by grind)]
      exact ⟨rfl, rfl⟩
    · exfalso; grind
    · rw [if_pos (show 0 < X (F k) - X (T k) by grind), if_neg (show ¬ 0 < X (T k) - X (F k) by grind), if_pos (show 0 < X (F k) - X (T k) by grind), if_neg (show ¬ 0 < X (T k) - X (F k) by grind)]
      exact ⟨rfl, rfl⟩
  · rw [if_pos (show 0 < Y (F k) - Y (T k) by grind), if_neg (show ¬ 0 < Y (T k) - Y (F k) by grind), if_pos (show Y (T k) - Y (F k) < 0 by grind), if_pos (show 0 < Y (F k) - Y (T k) by grind), if_neg (show ¬ 0 < Y (T k) - Y (F k) by grind), if_pos (show Y (T k) - Y (F k) < 0 by grind)]
    exact ⟨rfl, rfl⟩
/-- the cells of the net are as they were -/
theorem net_fr {σ τ : SG} (h : FR BL σ τ) : nN τ = nN σ ∧ nM τ = nM σ ∧ nX τ = nX σ ∧ nY τ = nY σ ∧ nF τ = nF σ ∧ nT τ = nT σ ∧ ∀ β, nb τ β = nb σ β := by
  refine ⟨?_, ?_, ?_, ?_, ?_, ?_, fun β => ?_⟩
  · unfold nN; rw [FR_at h (by decide) 0]
  · unfold nM; rw [FR_at h (by decide) 0]
  · unfold nX; funext w; rw [FR_at h (by decide) _]
  · unfold nY; funext w; rw [FR_at h (by decide) _]
  · unfold nF; funext w; rw [FR_at h (by decide) _]
  · unfold nT; funext w; rw [FR_at h (by decide) _]
  · unfold nb; funext w; rw [FR_at h (by decide) _]
theorem NP_fr {σ τ : SG} (h : FR BL σ τ) (hp : NP σ) : NP τ := by
  unfold NP PO at *
  simp only [FR_at h (c := kR_hotX) (by decide), FR_at h (c := kR_hotY) (by decide), FR_at h (c := kR_hots) (by decide), FR_at h (c := kR_pieces) (by decide), FR_at h (c := kR_pieceFrom) (by decide), FR_at h (c := kR_pieceTo) (by decide)]
  exact hp
theorem mi_fr {σ τ : SG} (h : FR BL σ τ) (below β : Bool) (k : Nat) : mi_ below τ β k = mi_ below σ β k := by
  obtain ⟨-, e2, e3, e4, e5, e6, e7⟩ := net_fr h
  unfold mi_
  rw [e2, e3, e4, e5, e6, e7]
/-- the edges: boundary pieces of the first K, with the result on the left -/
def EG (σ τ : SG) (what K : Int) (pe : Int → Int) : Prop := (0 ≤ τ kR_edges 0 ∧ τ kR_edges 0 ≤ K) ∧ (∀ e, 0 ≤ e → e < τ kR_edges 0 → (0 ≤ pe e ∧ pe e < K) ∧ ((τ kR_edgeFrom e = σ kR_pieceFrom (pe e) ∧ τ kR_edgeTo e = σ kR_pieceTo (pe e)) ∨ (τ kR_edgeFrom e = σ kR_pieceTo (pe e) ∧ τ kR_edgeTo e = σ kR_pieceFrom (pe e))) ∧ lr_ σ what (τ kR_edgeFrom e).toNat (pe e).toNat = true ∧ rr_ σ what (τ kR_edgeFrom e).toNat (pe e).toNat = false ∧ nz (τ kR_edgeDone e) = false) ∧ (∀ e f, 0 ≤ e → e < f → f < τ kR_edges 0 → pe e < pe f) ∧ ∀ k, 0 ≤ k → k < K → lr_ σ what (nF σ k.toNat) k.toNat ≠ rr_ σ what (nF σ k.toNat) k.toNat → ∃ e, 0 ≤ e ∧ e < τ kR_edges 0 ∧ pe e = k
theorem wp_c {α : Type} {o : Option α} {P Q : α → Prop} (h : wp_ o P) (hk : ∀ v, P v → Q v) : wp_ o Q := by
  obtain ⟨v, e, p⟩ := h
  exact ⟨v, e, hk v p⟩
theorem v_boundary {σ : SG} {what : Int} (hσ : II σ) (hp : NP σ) (ho : HO σ) (hN : ∀ β, NG σ β) : wp_ (fR_boundary σ what) (fun τ => II τ ∧ FR [kR_edgeDone, kR_edgeFrom, kR_edgeTo, kR_edges] σ τ ∧ ∃ pe, EG σ τ what (σ kR_pieces 0) pe) := by
  unfold fR_boundary
  have bp := ii_kR_pieces hσ 0
  have bh := ii_kR_hots hσ 0
  obtain ⟨near, pr, po⟩ := id hp
  refine wp_wfI hσ b_kR_edges (by decide) (fun σ1 h1 e1 => ?_)
  have f1 : FR BL σ σ1 := FR_le (FR_sg e1) (by decide)
  have n1 : σ1 kR_edges 0 = 0 := sg_val e1
  refine wp_bd (P := fun s => II s.2 ∧ FR BL σ s.2 ∧ ∃ pe, EG σ s.2 what (σ kR_pieces 0) pe) ?_ (fun s _ h => wp_some h)
  refine wp_whl (fun s => 0 ≤ s.1 ∧ s.1 ≤ σ kR_pieces 0 ∧ II s.2 ∧ FR BL σ s.2 ∧ ∃ pe, EG σ s.2 what s.1 pe) (fun s => (σ kR_pieces 0 - s.1).toNat) ⟨Int.le_refl 0, bp.1, h1, f1, fun _ => 0, ⟨by dsimp only; omega, by dsimp only; omega⟩, fun e e0 e1 => by dsimp only at e1; omega, fun e f e0 ef f1 => by dsimp only at f1; omega, fun k k0 k1 => by dsimp only at k1; omega⟩ ?_
  rintro ⟨k, τ⟩ ⟨k0, k1, hτ, fτ, pe, ⟨en0, en1⟩, eE, eO, eA⟩
  dsimp only at k0 k1 hτ fτ en0 en1 eE eO eA ⊢
  have q1 : ∀ j, τ kR_pieceFrom j = σ kR_pieceFrom j := FR_at fτ (by decide)
  have q2 : ∀ j, τ kR_pieceTo j = σ kR_pieceTo j := FR_at fτ (by decide)
  have q3 : ∀ j, τ kR_pieceBits j = σ kR_pieceBits j := FR_at fτ (by decide)
  have q4 : τ kR_pieces 0 = σ kR_pieces 0 := FR_at fτ (by decide) 0
  have q5 : ∀ j, τ kR_hotY j = σ kR_hotY j := FR_at fτ (by decide)
  simp only [q4]
  rw [w32_of (x := k) (by omega) (by omega), w32_of (x := σ kR_pieces 0) (by omega) (by omega)]
  refine wp_if (fun g => ?_) (fun g => wp_ir ⟨hτ, fτ, pe, ⟨en0, by dsimp only; omega⟩, fun e e0 e1 => by have := eE e e0 e1; exact ⟨⟨this.1.1, by omega⟩, this.2⟩, eO, fun j j0 j1 => eA j j0 (by omega)⟩)
  have rk := pr k k0 g
  have bk := ii_kR_pieceBits hσ k
  have tk : ((k.toNat : Nat) : Int) = k := by omega
  have kM : k.toNat < nM σ := by unfold nM; omega
  have fK : ((nF σ k.toNat : Nat) : Int) = σ kR_pieceFrom k := by unfold nF; rw [tk]; omega
  have tK : ((nT σ k.toNat : Nat) : Int) = σ kR_pieceTo k := by unfold nT; rw [tk]; omega
  have ne : nF σ k.toNat ≠ nT σ k.toNat := by omega
  have sw := fun β => side_sw (m := nM σ) (b := nb σ β) ne ((hN β).2.1 _ kM)
  have swl : lr_ σ what (nT σ k.toNat) k.toNat = rr_ σ what (nF σ k.toNat) k.toNat ∧ rr_ σ what (nT σ k.toNat) k.toNat = lr_ σ what (nF σ k.toNat) k.toNat := by
    unfold lr_ rr_
    rw [(sw false).1, (sw true).1, (sw false).2, (sw true).2]
    exact ⟨rfl, rfl⟩
  -- no edge here
  have skip : lr_ σ what (nF σ k.toNat) k.toNat = rr_ σ what (nF σ k.toNat) k.toNat → ((0 ≤ k + 1 ∧ k + 1 ≤ σ kR_pieces 0 ∧ II τ ∧ FR BL σ τ ∧ ∃ pe, EG σ τ what (k + 1) pe) ∧ (σ kR_pieces 0 - (k + 1)).toNat < (σ kR_pieces 0 - k).toNat) := by
    intro eq
    refine ⟨⟨by omega, by omega, hτ, fτ, pe, ⟨en0, by omega⟩, fun e e0 e1 => ?_, eO, fun j j0 j1 hj => ?_⟩, by omega⟩
    · have := eE e e0 e1; exact ⟨⟨this.1.1, by omega⟩, this.2⟩
    · by_cases c : j = k
      · rw [c] at hj; exact absurd eq hj
      · exact eA j j0 (by omega) hj
  refine wp_rd k0 (by omega) ?_
  rw [q3, w32_of (x := σ kR_pieceBits k) (by omega) (by omega)]
  refine wp_if (fun gz => ?_) (fun gz => ?_)
  · refine wp_il (skip ?_)
    have ik : ic_ (nF σ) (nT σ) (nF σ k.toNat) k.toNat = true := by unfold ic_; simp
    have wN : nF σ k.toNat < nN σ := by unfold nN; omega
    have z : ∀ β, nb σ β k.toNat = false := fun β => by unfold nb; rw [tk, gz, bq_0]
    have nt := fun β => net_rt (hN β) wN kM ik
    unfold lr_ rr_
    rw [(nt false).1, (nt false).2, (nt true).1, (nt true).2, z, z, Bool.xor_false, Bool.xor_false]
  refine wp_rd k0 (by omega) (wp_rd k0 (by omega) ?_)
  rw [q1, q2, w32_of (x := σ kR_pieceFrom k) (by omega) (by omega), w32_of (x := σ kR_pieceTo k) (by omega) (by omega)]
  have m1 := near (σ kR_pieceFrom k) (by omega) (by omega)
  have m2 := near (σ kR_pieceTo k) (by omega) (by omega)
  unfold nr_ at m1 m2
  have NPτ : NP τ := NP_fr fτ hp
  have k1' : k < τ kR_pieces 0 := by rw [q4]; exact g
  have dyF : dy_ (nY σ) (nF σ) (nT σ) (nF σ k.toNat) k.toNat = ((σ kR_hotY (σ kR_pieceTo k) : Int) : Rat) - ((σ kR_hotY (σ kR_pieceFrom k) : Int) : Rat) := by
    unfold dy_ ot_ nY; rw [if_pos rfl, fK, tK]
  have dxF : dx_ (nX σ) (nF σ) (nT σ) (nF σ k.toNat) k.toNat = ((σ kR_hotX (σ kR_pieceTo k) : Int) : Rat) - ((σ kR_hotX (σ kR_pieceFrom k) : Int) : Rat) := by
    unfold dx_ ot_ nX; rw [if_pos rfl, fK, tK]
  have dyT : dy_ (nY σ) (nF σ) (nT σ) (nT σ k.toNat) k.toNat = ((σ kR_hotY (σ kR_pieceFrom k) : Int) : Rat) - ((σ kR_hotY (σ kR_pieceTo k) : Int) : Rat) := by
    unfold dy_ ot_ nY; rw [if_neg ne, fK, tK]
  -- both sides
  refine wp_bd (P := fun s => ((s.1 = σ kR_pieceFrom k ∧ s.2.1 = σ kR_pieceTo k) ∨ (s.1 = σ kR_pieceTo k ∧ s.2.1 = σ kR_pieceFrom k)) ∧ (0 ≤ s.2.2.1 ∧ s.2.2.1 ≤ 3) ∧ (0 ≤ s.2.2.2 ∧ s.2.2.2 ≤ 3) ∧ (∀ β, bq_ β s.2.2.1 = lw_ (nM σ) (nX σ) (nY σ) (nF σ) (nT σ) (nb σ β) s.1.toNat k.toNat) ∧ ∀ β, bq_ β s.2.2.2 = rw_ (nM σ) (nX σ) (nY σ) (nF σ) (nT σ) (nb σ β) s.1.toNat k.toNat) ?_ ?_
  · refine wp_rd (by omega) (by omega) (wp_rd (by omega) (by omega) ?_)
    rw [q5, q5, w64_of (x := σ kR_hotY (σ kR_pieceFrom k)) (by omega) (by omega), w64_of (x := σ kR_hotY (σ kR_pieceTo k)) (by omega) (by omega)]
    have nfe : (σ kR_pieceFrom k).toNat = nF σ k.toNat := by omega
    have nte : (σ kR_pieceTo k).toNat = nT σ k.toNat := by omega
    refine wp_if (fun gy => ?_) (fun gy => ?_)
    · refine wp_bd (v_insideOf hτ NPτ k0 k1') ?_
      rintro x - ⟨x0, x1, hx⟩
      refine wp_bd (v_insideOf hτ NPτ k0 k1') ?_
      rintro y - ⟨y0, y1, hy⟩
      have hX : σ kR_hotX (σ kR_pieceFrom k) < σ kR_hotX (σ kR_pieceTo k) := by
        have := ho (σ kR_pieceFrom k) (σ kR_pieceTo k) (by omega) (by omega) (by omega)
        unfold lx_ at this; omega
      have z0 : ¬ (0 : Rat) < dy_ (nY σ) (nF σ) (nT σ) (nF σ k.toNat) k.toNat ∧ ¬ dy_ (nY σ) (nF σ) (nT σ) (nF σ k.toNat) k.toNat < 0 := by rw [dyF, gy]; constructor <;> grind
      have z1 : (0 : Rat) < dx_ (nX σ) (nF σ) (nT σ) (nF σ k.toNat) k.toNat := by rw [dxF]; have := Rat.intCast_lt_intCast.mpr hX; grind
      refine wp_some ⟨Or.inl ⟨rfl, rfl⟩, ⟨x0, x1⟩, ⟨y0, y1⟩, fun β => ?_, fun β => ?_⟩
      · dsimp only
        rw [hx, mi_fr fτ, nfe]
        unfold lw_
        rw [if_neg z0.1, if_neg z0.2, if_pos z1]; rfl
      · dsimp only
        rw [hy, mi_fr fτ, nfe]
        unfold rw_
        rw [if_neg z0.1, if_neg z0.2, if_pos z1]; rfl
    refine wp_bd (P := fun v => v = if σ kR_hotY (σ kR_pieceFrom k) < σ kR_hotY (σ kR_pieceTo k) then σ kR_pieceFrom k else σ kR_pieceTo k) ?_ ?_
    · refine wp_rd (by omega) (by omega) (wp_rd (by omega) (by omega) ?_)
      rw [q5, q5, w64_of (x := σ kR_hotY (σ kR_pieceFrom k)) (by omega) (by omega), w64_of (x := σ kR_hotY (σ kR_pieceTo k)) (by omega) (by omega)]
      exact wp_if (fun c => wp_some (by rw [if_pos c])) (fun c => wp_some (by rw [if_neg c]))
    rintro a - ea
    have ba : 0 ≤ a ∧ a < σ kR_hots 0 := by rw [ea]; split <;> omega
    refine wp_bd (P := fun v => v = if σ kR_hotY (σ kR_pieceFrom k) < σ kR_hotY (σ kR_pieceTo k) then σ kR_pieceTo k else σ kR_pieceFrom k) ?_ ?_
    · refine wp_rd k0 (by omega) ?_
      rw [q1, w32_of (x := a) (by omega) (by omega), w32_of (x := σ kR_pieceFrom k) (by omega) (by omega)]
      refine wp_if (fun c => ?_) (fun c => ?_)
      · refine wp_rd k0 (by omega) (wp_some ?_)
        rw [q2]
        by_cases d : σ kR_hotY (σ kR_pieceFrom k) < σ kR_hotY (σ kR_pieceTo k)
        · rw [if_pos d]
        · rw [if_neg d] at ea; omega
      · refine wp_rd k0 (by omega) (wp_some ?_)
        rw [q1]
        by_cases d : σ kR_hotY (σ kR_pieceFrom k) < σ kR_hotY (σ kR_pieceTo k)
        · rw [if_pos d] at ea; omega
        · rw [if_neg d]
    rintro b - eb
    refine wp_bd (v_insideOf hτ NPτ k0 k1') ?_
    rintro x - ⟨x0, x1, hx⟩
    refine wp_rd k0 (by omega) ?_
    rw [q3]
    obtain ⟨y1, y2⟩ := ixo_b2 x0 x1 bk.1 bk.2
    have nbk : ∀ β, bq_ β (σ kR_pieceBits k) = nb σ β k.toNat := fun β => by unfold nb; rw [tk]
    have up : 0 < dy_ (nY σ) (nF σ) (nT σ) a.toNat k.toNat := by
      by_cases d : σ kR_hotY (σ kR_pieceFrom k) < σ kR_hotY (σ kR_pieceTo k)
      · rw [if_pos d] at ea
        rw [ea, nfe, dyF]; have := Rat.intCast_lt_intCast.mpr d; grind
      · rw [if_neg d] at ea
        rw [ea, nte, dyT]; have := Rat.intCast_lt_intCast.mpr (show σ kR_hotY (σ kR_pieceTo k) < σ kR_hotY (σ kR_pieceFrom k) by omega); grind
    refine wp_some ⟨?_, y1, ⟨x0, x1⟩, fun β => ?_, fun β => ?_⟩
    · dsimp only
      by_cases d : σ kR_hotY (σ kR_pieceFrom k) < σ kR_hotY (σ kR_pieceTo k)
      · rw [if_pos d] at ea eb; exact Or.inl ⟨ea, eb⟩
      · rw [if_neg d] at ea eb; exact Or.inr ⟨ea, eb⟩
    · dsimp only
      rw [y2, hx, mi_fr fτ, nbk]
      unfold lw_
      rw [if_pos up]; rfl
    · dsimp only
      rw [hx, mi_fr fτ]
      unfold rw_
      rw [if_pos up]; rfl
  rintro ⟨a, b, x, y⟩ - ⟨hab, bx, by', hx, hy⟩
  dsimp only at hab bx by' hx hy ⊢
  have bab : (0 ≤ a ∧ a < σ kR_hots 0) ∧ (0 ≤ b ∧ b < σ kR_hots 0) := by omega
  have L : fR_isResult what x = lr_ σ what a.toNat k.toNat := by rw [isRes what bx.1 bx.2, hx, hx]; rfl
  have R : fR_isResult what y = rr_ σ what a.toNat k.toNat := by rw [isRes what by'.1 by'.2, hy, hy]; rfl
  rw [L, R]
  have flip : lr_ σ what b.toNat k.toNat = rr_ σ what a.toNat k.toNat ∧ rr_ σ what b.toNat k.toNat = lr_ σ what a.toNat k.toNat := by
    rcases hab with ⟨c1, c2⟩ | ⟨c1, c2⟩
    · rw [show a.toNat = nF σ k.toNat by omega, show b.toNat = nT σ k.toNat by omega]; exact swl
    · rw [show a.toNat = nT σ k.toNat by omega, show b.toNat = nF σ k.toNat by omega]; exact ⟨swl.2.symm, swl.1.symm⟩
  have atF : lr_ σ what (nF σ k.toNat) k.toNat = rr_ σ what (nF σ k.toNat) k.toNat ↔ lr_ σ what a.toNat k.toNat = rr_ σ what a.toNat k.toNat := by
    rcases hab with ⟨c1, c2⟩ | ⟨c1, c2⟩
    · rw [show a.toNat = nF σ k.toNat by omega]
    · rw [show a.toNat = nT σ k.toNat by omega, swl.1, swl.2]; exact eq_comm
  refine wp_if (fun ge => wp_il (skip (atF.mpr ge))) (fun ge => ?_)
  have be := ii_kR_edges hτ 0
  generalize hE : τ kR_edges 0 = E at *
  have bu : ∀ c : Bool, 0 ≤ (if c = true then a else b) ∧ (if c = true then a else b) < σ kR_hots 0 := fun c => by split <;> omega
  have bv : ∀ c : Bool, 0 ≤ (if c = true then b else a) ∧ (if c = true then b else a) < σ kR_hots 0 := fun c => by split <;> omega
  generalize hU : (if lr_ σ what a.toNat k.toNat = true then a else b) = U at *
  generalize hV : (if lr_ σ what a.toNat k.toNat = true then b else a) = V at *
  have bU : 0 ≤ U ∧ U < σ kR_hots 0 := by rw [← hU]; exact bu _
  have bV : 0 ≤ V ∧ V < σ kR_hots 0 := by rw [← hV]; exact bv _
  have UV : ((U = σ kR_pieceFrom k ∧ V = σ kR_pieceTo k) ∨ (U = σ kR_pieceTo k ∧ V = σ kR_pieceFrom k)) ∧ lr_ σ what U.toNat k.toNat = true ∧ rr_ σ what U.toNat k.toNat = false := by
    cases hl : lr_ σ what a.toNat k.toNat with
    | true =>
      rw [hl] at hU hV ge
      rw [if_pos rfl] at hU hV
      rw [← hU, ← hV]
      exact ⟨hab, hl, by cases hr : rr_ σ what a.toNat k.toNat with | false => rfl | true => exact absurd hr.symm ge⟩
    | false =>
      rw [hl] at hU hV ge
      rw [if_neg (by decide)] at hU hV
      rw [← hU, ← hV]
      refine ⟨by omega, ?_, by rw [flip.2]; exact hl⟩
      rw [flip.1]
      cases hr : rr_ σ what a.toNat k.toNat with | false => exact absurd hr.symm ge | true => rfl
  rw [w32_of (x := E) (by omega) (by omega)]
  refine wp_waI hτ b_kR_edgeFrom (by omega) (by omega) (by omega) (fun σ2 h2 e2 => ?_)
  have x2 : σ2 kR_edges 0 = E := by rw [e2, sg_nc (by decide)]; exact hE
  rw [x2, w32_of (x := E) (by omega) (by omega)]
  refine wp_waI h2 b_kR_edgeTo (by omega) (by omega) (by omega) (fun σ3 h3 e3 => ?_)
  have x3 : σ3 kR_edges 0 = E := by rw [e3, sg_nc (by decide)]; exact x2
  rw [x3, w32_of (x := E) (by omega) (by omega)]
  refine wp_waI h3 b_kR_edgeDone (by omega) (by omega) (by decide) (fun σ4 h4 e4 => ?_)
  have x4 : σ4 kR_edges 0 = E := by rw [e4, sg_nc (by decide)]; exact x3
  rw [x4]
  refine wp_wfI h4 b_kR_edges (by omega) (fun σ5 h5 e5 => ?_)
  have x5 : σ5 kR_edges 0 = E + 1 := sg_val e5
  have u1 : ∀ j, σ5 kR_edgeFrom j = if j = E then U else τ kR_edgeFrom j := by
    intro j
    rw [e5, sg_nc (by decide), e4, sg_nc (by decide), e3, sg_nc (by decide), e2]
    by_cases q : j = E
    · rw [if_pos q, q, sg_at]
    · rw [if_neg q, sg_ni q]
  have u2 : ∀ j, σ5 kR_edgeTo j = if j = E then V else τ kR_edgeTo j := by
    intro j
    rw [e5, sg_nc (by decide), e4, sg_nc (by decide), e3]
    by_cases q : j = E
    · rw [if_pos q, q, sg_at]
    · rw [if_neg q, sg_ni q, e2, sg_nc (by decide)]
  have u3 : ∀ j, nz (σ5 kR_edgeDone j) = if j = E then false else nz (τ kR_edgeDone j) := by
    intro j
    rw [e5, sg_nc (by decide), e4]
    by_cases q : j = E
    · rw [if_pos q, q, sg_at, nz_bz]
    · rw [if_neg q, sg_ni q, e3, sg_nc (by decide), e2, sg_nc (by decide)]
  refine wp_il ⟨⟨by dsimp only; omega, by dsimp only; omega, h5, FR_tr (FR_tr (FR_tr (FR_tr fτ (FR_sg e2) (by decide) (by decide) : FR BL σ σ2) (FR_sg e3) (by decide) (by decide) : FR BL σ σ3) (FR_sg e4) (by decide) (by decide) : FR BL σ σ4) (FR_sg e5) (by decide) (by decide), fun e => if e = E then k else pe e, ⟨by dsimp only; omega, by dsimp only; omega⟩, fun e e0 e1 => ?_, fun e f e0 ef f1 => ?_, fun j j0 j1 hj => ?_⟩, by dsimp only; omega⟩
  · dsimp only at e1 ⊢
    rw [x5] at e1
    rw [u1, u2, u3]
    by_cases c : e = E
    · simp only [if_pos c]
      exact ⟨⟨k0, by omega⟩, UV.1, UV.2.1, UV.2.2, trivial⟩
    · simp only [if_neg c]
      have := eE e e0 (by omega)
      exact ⟨⟨this.1.1, by omega⟩, this.2⟩
  · dsimp only at f1 ⊢
    rw [x5] at f1
    rw [if_neg (show ¬ e = E by omega)]
    by_cases c : f = E
    · rw [if_pos c]; exact (eE e e0 (by omega)).1.2
    · rw [if_neg c]; exact eO e f e0 ef (by omega)
  · dsimp only
    by_cases c : j = k
    · exact ⟨E, en0, by omega, by rw [if_pos rfl, c]⟩
    · obtain ⟨e, e0, e1', e2'⟩ := eA j j0 (by omega) hj
      exact ⟨e, e0, by omega, by rw [if_neg (by omega)]; exact e2'⟩
end SNM
