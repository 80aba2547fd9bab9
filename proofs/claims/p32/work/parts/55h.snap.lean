section SNH
def bq_ (β : Bool) (x : Int) : Bool := if β = true then decide (x / 2 % 2 = 1) else decide (x % 2 = 1)
theorem ixo_bq {x b : Int} (x0 : 0 ≤ x) (x1 : x ≤ 3) (hb : b = 1 ∨ b = 2) : (0 ≤ q_ixo x b ∧ q_ixo x b ≤ 3) ∧ ∀ β, bq_ β (q_ixo x b) = Bool.xor (bq_ β x) (bq_ β b) := by
  have key : ∀ m : Fin 4, ∀ c : Fin 2, (0 ≤ q_ixo (m.val : Int) ((c.val : Int) + 1) ∧ q_ixo (m.val : Int) ((c.val : Int) + 1) ≤ 3) ∧ ∀ β, bq_ β (q_ixo (m.val : Int) ((c.val : Int) + 1)) = Bool.xor (bq_ β (m.val : Int)) (bq_ β ((c.val : Int) + 1)) := by decide +kernel
  have hx : ((⟨x.toNat, by omega⟩ : Fin 4).val : Int) = x := by show ((x.toNat : Nat) : Int) = x; omega
  rcases hb with q | q
  · have := key ⟨x.toNat, by omega⟩ 0
    rw [hx] at this
    rw [q]; exact this
  · have := key ⟨x.toNat, by omega⟩ 1
    rw [hx] at this
    rw [q]; exact this
theorem bq_0 (β : Bool) : bq_ β 0 = false := by cases β <;> rfl
theorem bq_nz {x : Int} (x0 : 0 ≤ x) (x1 : x ≤ 3) : x = 0 ↔ (bq_ false x = false ∧ bq_ true x = false) := by
  have : x = 0 ∨ x = 1 ∨ x = 2 ∨ x = 3 := by omega
  rcases this with q | q | q | q <;> subst q <;> decide
theorem xs_up {f g : Nat → Bool} {l : Nat} {d : Bool} : ∀ {m : Nat}, l < m → (∀ j, j < m → j ≠ l → g j = f j) → g l = Bool.xor (f l) d → xs_ m g = Bool.xor (xs_ m f) d
  | 0, h, _, _ => absurd h (by omega)
  | m + 1, h, ho, hl => by
    unfold xs_
    by_cases q : l = m
    · subst q
      rw [xs_cg (f := g) (g := f) (fun j hj => ho j (by omega) (by omega)), hl]
      cases xs_ l f <;> cases f l <;> cases d <;> rfl
    · rw [xs_up (m := m) (by omega) (fun j hj hn => ho j (by omega) hn) hl, ho m (by omega) (fun e => q e.symm)]
      cases xs_ m f <;> cases f m <;> cases d <;> rfl
theorem xs_ins {f g : Nat → Bool} {l : Nat} : ∀ {m : Nat}, l ≤ m → (∀ j, j < l → g j = f j) → (∀ j, l < j → j ≤ m → g j = f (j - 1)) → xs_ (m + 1) g = Bool.xor (xs_ m f) (g l)
  | 0, h, _, _ => by
    have : l = 0 := by omega
    subst this; rfl
  | m + 1, h, h1, h2 => by
    by_cases q : l = m + 1
    · subst q
      show Bool.xor (xs_ (m + 1) g) (g (m + 1)) = _
      rw [xs_cg (f := g) (g := f) (fun j hj => h1 j hj)]
    · show Bool.xor (xs_ (m + 1) g) (g (m + 1)) = Bool.xor (Bool.xor (xs_ m f) (f m)) (g l)
      rw [xs_ins (m := m) (by omega) h1 (fun j j0 j1 => h2 j j0 (by omega)), h2 (m + 1) (by omega) (Nat.le_refl _), Nat.add_sub_cancel]
      cases xs_ m f <;> cases f m <;> cases g l <;> rfl
/-- pieces are sorted -/
def PO (n : Int) (τ : SG) : Prop := (∀ k, 0 ≤ k → k < τ kR_pieces 0 → 0 ≤ τ kR_pieceFrom k ∧ τ kR_pieceFrom k < τ kR_pieceTo k ∧ τ kR_pieceTo k < n) ∧ ∀ j k, 0 ≤ j → j < k → k < τ kR_pieces 0 → lx_ (τ kR_pieceFrom j) (τ kR_pieceTo j) (τ kR_pieceFrom k) (τ kR_pieceTo k)
def PM (τ : SG) (a b : Int) : Prop := ∃ k, 0 ≤ k ∧ k < τ kR_pieces 0 ∧ τ kR_pieceFrom k = a ∧ τ kR_pieceTo k = b
def PU (τ : SG) (β : Bool) (s : Int → Int → Bool) : Bool := xs_ (τ kR_pieces 0).toNat (fun k : Nat => bq_ β (τ kR_pieceBits k) && s (τ kR_pieceFrom k) (τ kR_pieceTo k))
abbrev QL : List Nat := [kR_pieceBits, kR_pieceFrom, kR_pieceTo, kR_pieces]
theorem v_addPiece {σ : SG} {n a b bit : Int} (hσ : II σ) (hn : n ≤ 8192) (hp : PO n σ) (a0 : 0 ≤ a) (a1 : a < n) (b0 : 0 ≤ b) (b1 : b < n) (hab : a ≠ b) (hbit : bit = 1 ∨ bit = 2) (hm : σ kR_pieces 0 ≤ 16383) : wp_ (fR_addPiece σ a b bit) (fun τ => II τ ∧ FR [kR_pieceBits, kR_pieceFrom, kR_pieceTo, kR_pieces] σ τ ∧ PO n τ ∧ (∀ p q, PM τ p q ↔ PM σ p q ∨ (p = (if a < b then a else b) ∧ q = (if a < b then b else a))) ∧ (∀ β s, PU τ β s = Bool.xor (PU σ β s) (bq_ β bit && s (if a < b then a else b) (if a < b then b else a))) ∧ τ kR_pieces 0 ≤ σ kR_pieces 0 + 1) := by
  unfold fR_addPiece
  have bm := ii_kR_pieces hσ 0
  rw [w32_of (x := a) (by omega) (by omega), w32_of (x := b) (by omega) (by omega)]
  generalize hA : (if a < b then a else b) = A
  generalize hB : (if a < b then b else a) = B
  have bA : 0 ≤ A ∧ A < B ∧ B < n := by rw [← hA, ← hB]; split <;> omega
  rw [w32_of (x := A) (by omega) (by omega), w32_of (x := B) (by omega) (by omega)]
  obtain ⟨hr, hso⟩ := hp
  generalize hM : σ kR_pieces 0 = M at *
  refine wp_bd (P := fun s => 0 ≤ s.1 ∧ s.1 ≤ M ∧ (∀ i, 0 ≤ i → i < s.1 → lx_ (σ kR_pieceFrom i) (σ kR_pieceTo i) A B) ∧ (∀ i, s.1 ≤ i → i < M → ¬ lx_ (σ kR_pieceFrom i) (σ kR_pieceTo i) A B)) ?_ ?_
  · refine wp_whl (fun s => 0 ≤ s.1 ∧ s.1 ≤ s.2 ∧ s.2 ≤ M ∧ (∀ i, 0 ≤ i → i < s.1 → lx_ (σ kR_pieceFrom i) (σ kR_pieceTo i) A B) ∧ (∀ i, s.2 ≤ i → i < M → ¬ lx_ (σ kR_pieceFrom i) (σ kR_pieceTo i) A B)) (fun s => (s.2 - s.1).toNat) ⟨Int.le_refl 0, bm.1, Int.le_refl _, fun i i0 i1 => by dsimp only at i1; omega, fun i i0 i1 => by dsimp only at i0; omega⟩ ?_
    rintro ⟨l, h⟩ ⟨l0, lh, h1, C, D⟩
    dsimp only at l0 lh h1 C D ⊢
    rw [w32_of (x := l) (by omega) (by omega), w32_of (x := h) (by omega) (by omega)]
    refine wp_if (fun g => ?_) (fun g => ?_)
    · have em : q_idv (l + h) 2 = (l + h) / 2 := by rw [q_idv2 _ (by rw [w32_of (by omega) (by omega)]; omega), w32_of (by omega) (by omega)]
      rw [em]
      have bmm : l ≤ (l + h) / 2 ∧ (l + h) / 2 < h := by omega
      generalize (l + h) / 2 = m at *
      rw [w32_of (x := m) (by omega) (by omega)]
      have rm := hr m (by omega) (by omega)
      refine wp_bd (P := fun s => l ≤ s.1 ∧ s.1 ≤ s.2 ∧ s.2 ≤ h ∧ s.2 - s.1 < h - l ∧ (∀ i, 0 ≤ i → i < s.1 → lx_ (σ kR_pieceFrom i) (σ kR_pieceTo i) A B) ∧ (∀ i, s.2 ≤ i → i < M → ¬ lx_ (σ kR_pieceFrom i) (σ kR_pieceTo i) A B)) ?_ (fun s _ hs => wp_il ⟨⟨by dsimp only; omega, hs.2.1, by dsimp only; omega, hs.2.2.2.2.1, hs.2.2.2.2.2⟩, by dsimp only; omega⟩)
      refine wp_rd (by omega) (by omega) (wp_rd (by omega) (by omega) ?_)
      rw [w32_of (x := σ kR_pieceFrom m) (by omega) (by omega), w32_of (x := σ kR_pieceTo m) (by omega) (by omega)]
      refine wp_if (fun c => ?_) (fun c => ?_)
      · have c := (isB (by omega) (by omega) (by omega) (by omega)).mp c
        refine wp_some ⟨by dsimp only; omega, by dsimp only; omega, Int.le_refl _, by dsimp only; omega, fun i i0 i1 => ?_, D⟩
        dsimp only at i1
        by_cases e : i = m
        · rw [e]; exact c
        · exact lx_tr (hso i m i0 (by omega) (by omega)) c
      · have c : ¬ lx_ (σ kR_pieceFrom m) (σ kR_pieceTo m) A B := fun q => c ((isB (by omega) (by omega) (by omega) (by omega)).mpr q)
        refine wp_some ⟨Int.le_refl _, by dsimp only; omega, by dsimp only; omega, by dsimp only; omega, C, fun i i0 i1 q => ?_⟩
        dsimp only at i0
        by_cases e : i = m
        · rw [e] at q; exact c q
        · exact c (lx_tr (hso m i (by omega) (by omega) i1) q)
    · have e : h = l := by omega
      rw [e] at D
      exact wp_ir ⟨l0, by dsimp only; omega, C, D⟩
  rintro ⟨l, hh⟩ - ⟨l0, l1, C, D⟩
  dsimp only at l0 l1 C D ⊢
  rw [w32_of (x := l) (by omega) (by omega)]
  have mid : wp_ (bd_ (α := Bool) (if l = (w32 M) then some true else rd_ σ kR_pieceFrom 16385 l fun x_83 => if ¬ (w32 x_83) = A then some true else rd_ σ kR_pieceTo 16385 l fun x_87 => if ¬ (w32 x_87) = B then some true else some false) fun b_92 => some b_92) (fun b => b = true ↔ ¬ (l < M ∧ σ kR_pieceFrom l = A ∧ σ kR_pieceTo l = B)) := by
    rw [w32_of (x := M) (by omega) (by omega)]
    refine wp_bd (P := fun b => b = true ↔ ¬ (l < M ∧ σ kR_pieceFrom l = A ∧ σ kR_pieceTo l = B)) ?_ (fun _ _ h => wp_some h)
    refine wp_if (fun g => wp_some (by simp; omega)) (fun g => ?_)
    have rl := hr l l0 (by omega)
    refine wp_rd (by omega) (by omega) ?_
    rw [w32_of (x := σ kR_pieceFrom l) (by omega) (by omega)]
    refine wp_if (fun g1 => wp_some (by simp; omega)) (fun g1 => ?_)
    refine wp_rd (by omega) (by omega) ?_
    rw [w32_of (x := σ kR_pieceTo l) (by omega) (by omega)]
    refine wp_if (fun g2 => wp_some (by simp; omega)) (fun g2 => wp_some (by simp; omega))
  -- behind it the piece is there
  have gt : ∀ i, l ≤ i → i < M → ¬ (l < M ∧ σ kR_pieceFrom l = A ∧ σ kR_pieceTo l = B) → lx_ A B (σ kR_pieceFrom i) (σ kR_pieceTo i) := by
    intro i i0 i1 hne
    have hk : lx_ A B (σ kR_pieceFrom l) (σ kR_pieceTo l) := by
      have := D l (Int.le_refl _) (by omega)
      unfold lx_ at this ⊢; omega
    by_cases e : i = l
    · rw [e]; exact hk
    · exact lx_tr hk (hso l i l0 (by omega) i1)
  refine wp_bd (P := fun τ => II τ ∧ FR QL σ τ ∧ PO n τ ∧ (∀ p q, PM τ p q ↔ PM σ p q ∨ (p = A ∧ q = B)) ∧ (∀ β s, PU τ β s = PU σ β s) ∧ τ kR_pieces 0 ≤ M + 1 ∧ l < τ kR_pieces 0 ∧ τ kR_pieceFrom l = A ∧ τ kR_pieceTo l = B) ?_ ?_
  · refine wp_bd (P := fun b => b = true ↔ ¬ (l < M ∧ σ kR_pieceFrom l = A ∧ σ kR_pieceTo l = B)) ?_ ?_
    · obtain ⟨r, e1, e2⟩ := mid
      refine ⟨r, ?_, e2⟩
      generalize hoo : (if l = (w32 M) then some true else rd_ σ kR_pieceFrom 16385 l fun x_83 => if ¬ (w32 x_83) = A then some true else rd_ σ kR_pieceTo 16385 l fun x_87 => if ¬ (w32 x_87) = B then some true else some false) = oo at e1 ⊢
      cases oo with
      | none => cases e1
      | some v => exact e1
    rintro bb - hbb
    refine wp_if (fun g => ?_) (fun g => ?_)
    · have hne := hbb.mp g
      refine wp_bd (P := fun s => II s.2 ∧ FR QL σ s.2 ∧ s.2 kR_pieces 0 = M ∧ (∀ j, 0 ≤ j → j < l → s.2 kR_pieceFrom j = σ kR_pieceFrom j ∧ s.2 kR_pieceTo j = σ kR_pieceTo j ∧ s.2 kR_pieceBits j = σ kR_pieceBits j) ∧ (∀ j, l < j → j ≤ M → s.2 kR_pieceFrom j = σ kR_pieceFrom (j - 1) ∧ s.2 kR_pieceTo j = σ kR_pieceTo (j - 1) ∧ s.2 kR_pieceBits j = σ kR_pieceBits (j - 1))) ?_ ?_
      · refine wp_whl (fun s => l ≤ s.1 ∧ s.1 ≤ M ∧ II s.2 ∧ FR QL σ s.2 ∧ s.2 kR_pieces 0 = M ∧ (∀ j, 0 ≤ j → j < s.1 → s.2 kR_pieceFrom j = σ kR_pieceFrom j ∧ s.2 kR_pieceTo j = σ kR_pieceTo j ∧ s.2 kR_pieceBits j = σ kR_pieceBits j) ∧ (∀ j, s.1 < j → j ≤ M → s.2 kR_pieceFrom j = σ kR_pieceFrom (j - 1) ∧ s.2 kR_pieceTo j = σ kR_pieceTo (j - 1) ∧ s.2 kR_pieceBits j = σ kR_pieceBits (j - 1))) (fun s => (s.1 - l).toNat) ⟨l1, Int.le_refl _, hσ, FR_refl _ _, hM, fun _ _ _ => ⟨rfl, rfl, rfl⟩, fun j j0 j1 => by dsimp only at j0; omega⟩ ?_
        rintro ⟨k, υ⟩ ⟨k0, k1, hυ, fυ, mυ, X, Y⟩
        dsimp only at k0 k1 hυ fυ mυ X Y ⊢
        rw [w32_of (x := k) (by omega) (by omega)]
        refine wp_if (fun p => ?_) (fun p => wp_ir ⟨hυ, fυ, mυ, fun j j0 j1 => X j j0 (by omega), fun j j0 j1 => Y j (by omega) j1⟩)
        rw [w32_of (x := k - 1) (by omega) (by omega)]
        refine wp_rd (by omega) (by omega) ?_
        refine wp_waI hυ b_kR_pieceFrom (by omega) (by omega) (ii_kR_pieceFrom hυ _) (fun σ1 h1 e1 => ?_)
        refine wp_rd (by omega) (by omega) ?_
        refine wp_waI h1 b_kR_pieceTo (by omega) (by omega) (ii_kR_pieceTo h1 _) (fun σ2 h2 e2 => ?_)
        refine wp_rd (by omega) (by omega) ?_
        refine wp_waI h2 b_kR_pieceBits (by omega) (by omega) (ii_kR_pieceBits h2 _) (fun σ3 h3 e3 => ?_)
        have v1 : ∀ j, σ3 kR_pieceFrom j = if j = k then υ kR_pieceFrom (k - 1) else υ kR_pieceFrom j := by
          intro j
          rw [e3, sg_nc (by decide), e2, sg_nc (by decide), e1]
          by_cases q : j = k
          · rw [if_pos q, q, sg_at]
          · rw [if_neg q, sg_ni q]
        have v2 : ∀ j, σ3 kR_pieceTo j = if j = k then υ kR_pieceTo (k - 1) else υ kR_pieceTo j := by
          intro j
          rw [e3, sg_nc (by decide), e2]
          by_cases q : j = k
          · rw [if_pos q, q, sg_at, e1, sg_nc (by decide)]
          · rw [if_neg q, sg_ni q, e1, sg_nc (by decide)]
        have v3 : ∀ j, σ3 kR_pieceBits j = if j = k then υ kR_pieceBits (k - 1) else υ kR_pieceBits j := by
          intro j
          rw [e3]
          by_cases q : j = k
          · rw [if_pos q, q, sg_at, e2, sg_nc (by decide), e1, sg_nc (by decide)]
          · rw [if_neg q, sg_ni q, e2, sg_nc (by decide), e1, sg_nc (by decide)]
        refine wp_il ⟨⟨by dsimp only; omega, by dsimp only; omega, h3, FR_tr (FR_tr (FR_tr fυ (FR_sg e1) (by decide) (by decide) : FR QL σ σ1) (FR_sg e2) (by decide) (by decide) : FR QL σ σ2) (FR_sg e3) (by decide) (by decide), by show σ3 kR_pieces 0 = M; rw [e3, sg_nc (by decide), e2, sg_nc (by decide), e1, sg_nc (by decide)]; exact mυ, fun j j0 j1 => ?_, fun j j0 j1 => ?_⟩, by dsimp only; omega⟩
        · dsimp only at j1 ⊢
          rw [v1, v2, v3, if_neg (by omega), if_neg (by omega), if_neg (by omega)]
          exact X j j0 (by omega)
        · dsimp only at j0 ⊢
          rw [v1, v2, v3]
          by_cases q : j = k
          · rw [if_pos q, if_pos q, if_pos q, q]; exact X (k - 1) (by omega) (by omega)
          · rw [if_neg q, if_neg q, if_neg q]; exact Y j (by omega) j1
      rintro ⟨k, υ⟩ - ⟨hυ, fυ, mυ, X, Y⟩
      dsimp only at hυ fυ mυ X Y ⊢
      refine wp_waI hυ b_kR_pieceFrom (by omega) (by omega) (by omega) (fun σ1 h1 e1 => ?_)
      refine wp_waI h1 b_kR_pieceTo (by omega) (by omega) (by omega) (fun σ2 h2 e2 => ?_)
      refine wp_waI h2 b_kR_pieceBits (by omega) (by omega) (by decide) (fun σ3 h3 e3 => ?_)
      have m3 : σ3 kR_pieces 0 = M := by rw [e3, sg_nc (by decide), e2, sg_nc (by decide), e1, sg_nc (by decide)]; exact mυ
      rw [m3]
      refine wp_wfI h3 b_kR_pieces (by omega) (fun σ4 h4 e4 => wp_some ?_)
      have m4 : σ4 kR_pieces 0 = M + 1 := sg_val e4
      have u1 : ∀ j, 0 ≤ j → j < M + 1 → σ4 kR_pieceFrom j = if j = l then A else if j < l then σ kR_pieceFrom j else σ kR_pieceFrom (j - 1) := by
        intro j j0 j1
        rw [e4, sg_nc (by decide), e3, sg_nc (by decide), e2, sg_nc (by decide), e1]
        by_cases q : j = l
        · rw [if_pos q, q, sg_at]
        · rw [if_neg q, sg_ni q]
          by_cases r : j < l
          · rw [if_pos r]; exact (X j j0 r).1
          · rw [if_neg r]; exact (Y j (by omega) (by omega)).1
      have u2 : ∀ j, 0 ≤ j → j < M + 1 → σ4 kR_pieceTo j = if j = l then B else if j < l then σ kR_pieceTo j else σ kR_pieceTo (j - 1) := by
        intro j j0 j1
        rw [e4, sg_nc (by decide), e3, sg_nc (by decide), e2]
        by_cases q : j = l
        · rw [if_pos q, q, sg_at]
        · rw [if_neg q, sg_ni q, e1, sg_nc (by decide)]
          by_cases r : j < l
          · rw [if_pos r]; exact (X j j0 r).2.1
          · rw [if_neg r]; exact (Y j (by omega) (by omega)).2.1
      have u3 : ∀ j, 0 ≤ j → j < M + 1 → σ4 kR_pieceBits j = if j = l then 0 else if j < l then σ kR_pieceBits j else σ kR_pieceBits (j - 1) := by
        intro j j0 j1
        rw [e4, sg_nc (by decide), e3]
        by_cases q : j = l
        · rw [if_pos q, q, sg_at]
        · rw [if_neg q, sg_ni q, e2, sg_nc (by decide), e1, sg_nc (by decide)]
          by_cases r : j < l
          · rw [if_pos r]; exact (X j j0 r).2.2
          · rw [if_neg r]; exact (Y j (by omega) (by omega)).2.2
      refine ⟨h4, FR_tr (FR_tr (FR_tr (FR_tr fυ (FR_sg e1) (by decide) (by decide) : FR QL σ σ1) (FR_sg e2) (by decide) (by decide) : FR QL σ σ2) (FR_sg e3) (by decide) (by decide) : FR QL σ σ3) (FR_sg e4) (by decide) (by decide), ⟨fun j j0 j1 => ?_, fun i j i0 ij j1 => ?_⟩, fun p q => ?_, fun β s => ?_, by omega, by omega, ?_, ?_⟩
      · rw [m4] at j1
        rw [u1 j j0 j1, u2 j j0 j1]
        by_cases q : j = l
        · rw [if_pos q, if_pos q]; omega
        · rw [if_neg q, if_neg q]
          by_cases r : j < l
          · rw [if_pos r, if_pos r]; exact hr j j0 (by omega)
          · rw [if_neg r, if_neg r]; exact hr (j - 1) (by omega) (by omega)
      · rw [m4] at j1
        rw [u1 i i0 (by omega), u2 i i0 (by omega), u1 j (by omega) j1, u2 j (by omega) j1]
        by_cases p1 : i = l
        · rw [if_pos p1, if_pos p1, if_neg (by omega), if_neg (by omega), if_neg (by omega), if_neg (by omega)]
          exact gt (j - 1) (by omega) (by omega) hne
        · rw [if_neg p1, if_neg p1]
          by_cases p2 : j = l
          · rw [if_pos (by omega), if_pos (by omega), if_pos p2, if_pos p2]
            exact C i i0 (by omega)
          · rw [if_neg p2, if_neg p2]
            by_cases p3 : i < l
            · rw [if_pos p3, if_pos p3]
              by_cases p4 : j < l
              · rw [if_pos p4, if_pos p4]; exact hso i j i0 ij (by omega)
              · rw [if_neg p4, if_neg p4]; exact hso i (j - 1) i0 (by omega) (by omega)
            · rw [if_neg p3, if_neg p3, if_neg (by omega), if_neg (by omega)]; exact hso (i - 1) (j - 1) (by omega) (by omega) (by omega)
      · unfold PM
        rw [m4, hM]
        constructor
        · rintro ⟨j, j0, j1, x1, x2⟩
          rw [u1 j j0 j1] at x1
          rw [u2 j j0 j1] at x2
          by_cases p1 : j = l
          · rw [if_pos p1] at x1 x2; exact Or.inr ⟨x1.symm, x2.symm⟩
          · rw [if_neg p1] at x1 x2
            by_cases p2 : j < l
            · rw [if_pos p2] at x1 x2; exact Or.inl ⟨j, j0, by omega, x1, x2⟩
            · rw [if_neg p2] at x1 x2; exact Or.inl ⟨j - 1, by omega, by omega, x1, x2⟩
        · rintro (⟨j, j0, j1, x1, x2⟩ | ⟨x1, x2⟩)
          · by_cases p2 : j < l
            · exact ⟨j, j0, by omega, by rw [u1 j j0 (by omega), if_neg (by omega), if_pos p2]; exact x1, by rw [u2 j j0 (by omega), if_neg (by omega), if_pos p2]; exact x2⟩
            · exact ⟨j + 1, by omega, by omega, by rw [u1 (j + 1) (by omega) (by omega), if_neg (by omega), if_neg (by omega), Int.add_sub_cancel]; exact x1, by rw [u2 (j + 1) (by omega) (by omega), if_neg (by omega), if_neg (by omega), Int.add_sub_cancel]; exact x2⟩
          · exact ⟨l, l0, by omega, by rw [u1 l l0 (by omega), if_pos rfl, x1], by rw [u2 l l0 (by omega), if_pos rfl, x2]⟩
      · unfold PU
        rw [m4, hM, show (M + 1).toNat = M.toNat + 1 by omega]
        rw [xs_ins (l := l.toNat) (f := fun k : Nat => bq_ β (σ kR_pieceBits k) && s (σ kR_pieceFrom k) (σ kR_pieceTo k)) (by omega) (fun j hj => by
            have z1 : ¬ ((j : Int) = l) := by omega
            have z2 : (j : Int) < l := by omega
            simp only [u1 j (by omega) (by omega), u2 j (by omega) (by omega), u3 j (by omega) (by omega), if_neg z1, if_pos z2]) (fun j j0 j1 => by
            have z1 : ¬ ((j : Int) = l) := by omega
            have z2 : ¬ ((j : Int) < l) := by omega
            have z3 : ((j - 1 : Nat) : Int) = (j : Int) - 1 := by omega
            simp only [u1 j (by omega) (by omega), u2 j (by omega) (by omega), u3 j (by omega) (by omega), if_neg z1, if_neg z2, z3])]
        rw [u3 (l.toNat : Nat) (by omega) (by omega), if_pos (by omega), bq_0]
        simp
      · rw [u1 l l0 (by omega), if_pos rfl]
      · rw [u2 l l0 (by omega), if_pos rfl]
    · have he : l < M ∧ σ kR_pieceFrom l = A ∧ σ kR_pieceTo l = B := by
        by_cases q : (l < M ∧ σ kR_pieceFrom l = A ∧ σ kR_pieceTo l = B)
        · exact q
        · exact absurd (hbb.mpr q) g
      refine wp_some ⟨hσ, FR_refl _ _, ⟨by rw [hM]; exact hr, by rw [hM]; exact hso⟩, fun p q => ⟨Or.inl, ?_⟩, fun _ _ => rfl, by omega, by omega, he.2.1, he.2.2⟩
      rintro (h | ⟨x1, x2⟩)
      · exact h
      · exact ⟨l, l0, by omega, by rw [he.2.1, x1], by rw [he.2.2, x2]⟩
  rintro τ - ⟨hτ, fτ, pτ, mτ, sτ, nτ, lτ, a3, b3⟩
  have bb := ii_kR_pieceBits hτ l
  have bn := ii_kR_pieces hτ 0
  obtain ⟨x1, x2⟩ := ixo_bq (x := τ kR_pieceBits l) (b := bit) (by omega) (by omega) hbit
  refine wp_rd (by omega) (by omega) ?_
  refine wp_waI hτ b_kR_pieceBits (by omega) (by omega) (by omega) (fun υ hυ e => wp_some ?_)
  have k1 : ∀ j, υ kR_pieceFrom j = τ kR_pieceFrom j := fun j => by rw [e, sg_nc (by decide)]
  have k2 : ∀ j, υ kR_pieceTo j = τ kR_pieceTo j := fun j => by rw [e, sg_nc (by decide)]
  have k3 : υ kR_pieces 0 = τ kR_pieces 0 := by rw [e, sg_nc (by decide)]
  refine ⟨hυ, FR_tr fτ (FR_sg e) (by decide) (by decide), ?_, fun p q => ?_, fun β s => ?_, by omega⟩
  · unfold PO at pτ ⊢
    simp only [k1, k2, k3]; exact pτ
  · rw [← mτ p q]
    unfold PM
    simp only [k1, k2, k3]
  · rw [← sτ β s]
    unfold PU
    rw [k3]
    have := xs_up (m := (τ kR_pieces 0).toNat) (l := l.toNat) (f := fun k : Nat => bq_ β (τ kR_pieceBits k) && s (τ kR_pieceFrom k) (τ kR_pieceTo k)) (g := fun k : Nat => bq_ β (υ kR_pieceBits k) && s (υ kR_pieceFrom k) (υ kR_pieceTo k)) (d := bq_ β bit && s A B) (by omega) (fun j hj hn => by
      rw [k1, k2, e, sg_ni (by omega)]) (by
      rw [k1, k2, show ((l.toNat : Nat) : Int) = l by omega, e, sg_at, x2, a3, b3]
      cases bq_ β (τ kR_pieceBits l) <;> cases bq_ β bit <;> cases s A B <;> rfl)
    exact this
end SNH
