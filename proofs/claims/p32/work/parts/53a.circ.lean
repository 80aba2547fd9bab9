section CIR
/-- what a register holds -/
def RG (σ : SG) (r v L : Int) : Prop := NR σ r ∧ RV σ r = v ∧ σ kR_limbs r ≤ L
def KP (t : Int) (σ τ : SG) : Prop := ∀ q v L : Int, 0 ≤ q → q < 20 → q ≠ t → RG σ q v L → RG τ q v L
theorem KP_of {t : Int} {σ τ : SG} (hσ : II σ) (h : RS t σ τ) : KP t σ τ := by
  intro q v L q0 q1 hq ⟨g1, g2, g3⟩
  obtain ⟨a1, a2, a3⟩ := RS_v hσ h q0 q1 hq
  exact ⟨a2 g1, by rw [a1]; exact g2, by rw [a3]; exact g3⟩
def LF : List Nat := [kR_limbs, kR_sign, kR_w]
theorem g_times {σ : SG} {t a b va vb La Lb : Int} (hσ : II σ) (t0 : 0 ≤ t) (t1 : t < 20) (a0 : 0 ≤ a) (a1 : a < 20) (b0 : 0 ≤ b) (b1 : b < 20) (ta : t ≠ a) (tb : t ≠ b) (ha : RG σ a va La) (hb : RG σ b vb Lb) (hl : La + Lb ≤ 300) : wp_ (fR_times σ t a b) (fun τ => II τ ∧ FR [kR_limbs, kR_sign, kR_w] σ τ ∧ RG τ t (va * vb) (La + Lb) ∧ KP t σ τ) := by
  obtain ⟨x1, x2, x3⟩ := ha
  obtain ⟨y1, y2, y3⟩ := hb
  refine wp_mono (v_times hσ t0 t1 a0 a1 b0 b1 ta tb (by omega) x1 y1) ?_
  rintro τ ⟨h1, h2, h3, h4, h5, h6⟩
  exact ⟨h1, h2, ⟨h3, by rw [h4, x2, y2], by omega⟩, KP_of hσ h6⟩
theorem g_add {σ : SG} {t a b va vb L : Int} {less : Bool} (hσ : II σ) (t0 : 0 ≤ t) (t1 : t < 20) (a0 : 0 ≤ a) (a1 : a < 20) (b0 : 0 ≤ b) (b1 : b < 20) (ha : RG σ a va L) (hb : RG σ b vb L) (hl : L ≤ 299) : wp_ (fR_add σ t a b less) (fun τ => II τ ∧ FR [kR_limbs, kR_sign, kR_w] σ τ ∧ RG τ t (if less = true then va - vb else va + vb) (L + 1) ∧ KP t σ τ) := by
  obtain ⟨x1, x2, x3⟩ := ha
  obtain ⟨y1, y2, y3⟩ := hb
  refine wp_mono (v_add hσ t0 t1 a0 a1 b0 b1 (by omega) (by omega) x1 y1) ?_
  rintro τ ⟨h1, h2, h3, h4, h5, h6⟩
  exact ⟨h1, h2, ⟨h3, by rw [h4, x2, y2], by omega⟩, KP_of hσ h6⟩
theorem g_set {σ : SG} {t v : Int} (hσ : II σ) (t0 : 0 ≤ t) (t1 : t < 20) (v0 : -9223372036854775808 < v) (v1 : v < 9223372036854775808) : wp_ (fR_set σ t v) (fun τ => II τ ∧ FR [kR_limbs, kR_sign, kR_w] σ τ ∧ RG τ t v 2 ∧ KP t σ τ) := by
  refine wp_mono (v_set hσ t0 t1 v0 v1) ?_
  rintro τ ⟨h1, h2, h3, h4, h5, h6⟩
  exact ⟨h1, h2, ⟨h3, h4, h5⟩, KP_of hσ h6⟩
theorem RG_le {σ : SG} {r v L L' : Int} (h : RG σ r v L) (hl : L ≤ L') : RG σ r v L' := ⟨h.1, h.2.1, Int.le_trans h.2.2 hl⟩
theorem FR3 {σ τ υ : SG} (a : FR [kR_limbs, kR_sign, kR_w] σ τ) (b : FR [kR_limbs, kR_sign, kR_w] τ υ) : FR [kR_limbs, kR_sign, kR_w] σ υ := FR_tr a b (by decide) (by decide)
/-- registers 0 .. 7 beside the squares -/
def R6 (σ : SG) (x1 y1 x2 y2 x3 y3 L : Int) : Prop := RG σ 0 x1 L ∧ RG σ 1 y1 L ∧ RG σ 3 x2 L ∧ RG σ 4 y2 L ∧ RG σ 6 x3 L ∧ RG σ 7 y3 L
theorem R6_k {σ τ : SG} {t x1 y1 x2 y2 x3 y3 L : Int} (h : R6 σ x1 y1 x2 y2 x3 y3 L) (k : KP t σ τ) (n0 : (0 : Int) ≠ t) (n1 : (1 : Int) ≠ t) (n3 : (3 : Int) ≠ t) (n4 : (4 : Int) ≠ t) (n6 : (6 : Int) ≠ t) (n7 : (7 : Int) ≠ t) : R6 τ x1 y1 x2 y2 x3 y3 L :=
  ⟨k 0 _ _ (by decide) (by decide) n0 h.1, k 1 _ _ (by decide) (by decide) n1 h.2.1, k 3 _ _ (by decide) (by decide) n3 h.2.2.1, k 4 _ _ (by decide) (by decide) n4 h.2.2.2.1, k 6 _ _ (by decide) (by decide) n6 h.2.2.2.2.1, k 7 _ _ (by decide) (by decide) n7 h.2.2.2.2.2⟩
theorem g_squares {σ : SG} {row x y L : Int} (hσ : II σ) (r0 : 0 ≤ row) (r1 : row < 3) (hx : RG σ (3 * row) x L) (hy : RG σ (3 * row + 1) y L) (hl : 2 * L ≤ 299) : wp_ (fR_squares σ row) (fun τ => II τ ∧ FR [kR_limbs, kR_sign, kR_w] σ τ ∧ RG τ (3 * row + 2) (x * x + y * y) (2 * L + 1) ∧ ∀ q v L', 0 ≤ q → q < 20 → q ≠ 3 * row + 2 → q ≠ 9 → q ≠ 10 → RG σ q v L' → RG τ q v L') := by
  unfold fR_squares
  refine wp_bd (g_times hσ (by decide) (by decide) (by omega) (by omega) (by omega) (by omega) (by omega) (by omega) hx hx (by omega)) ?_
  rintro σ1 - ⟨h1, f1, g1, k1⟩
  refine wp_bd (g_times h1 (by decide) (by decide) (by omega) (by omega) (by omega) (by omega) (by omega) (by omega) (k1 _ _ _ (by omega) (by omega) (by omega) hy) (k1 _ _ _ (by omega) (by omega) (by omega) hy) (by omega)) ?_
  rintro σ2 - ⟨h2, f2, g2, k2⟩
  refine wp_bd (g_add (less := false) h2 (by omega) (by omega) (by decide) (by decide) (by decide) (by decide) (k2 _ _ _ (by decide) (by decide) (by decide) g1) g2 (by omega)) ?_
  rintro σ3 - ⟨h3, f3, g3, k3⟩
  refine wp_some ⟨h3, FR3 (FR3 f1 f2) f3, RG_le g3 (by omega), ?_⟩
  intro q v L' q0 q1 n1 n2 n3 h
  exact k3 _ _ _ q0 q1 n1 (k2 _ _ _ q0 q1 n3 (k1 _ _ _ q0 q1 n2 h))
theorem irm_12 : q_irm (0 + 1) 3 = 1 ∧ q_irm (0 + 2) 3 = 2 ∧ q_irm (1 + 1) 3 = 2 ∧ q_irm (1 + 2) 3 = 0 ∧ q_irm (2 + 1) 3 = 0 ∧ q_irm (2 + 2) 3 = 1 := by decide +kernel
/-- a row's part of the determinant -/
theorem g_detrow {β : Type} {kt : SG → Option β} {Q : β → Prop} {σ : SG} {r p q x y1 z1 y2 z2 s L M S : Int} (hσ : II σ) (r0 : 0 ≤ r) (r1 : r < 9) (p0 : 0 ≤ p) (p2 : p ≤ 6) (q0 : 0 ≤ q) (q2 : q ≤ 6) (hx : RG σ r x L) (hy1 : RG σ (p + 1) y1 L) (hz1 : RG σ (p + 2) z1 M) (hy2 : RG σ (q + 1) y2 L) (hz2 : RG σ (q + 2) z2 M) (hs : RG σ 15 s S) (hl : 2 * L + M + 1 ≤ S) (hS : S ≤ 299)
    (hk : ∀ τ, II τ → FR [kR_limbs, kR_sign, kR_w] σ τ → RG τ 15 (s + x * (y1 * z2 - z1 * y2)) (S + 1) → (∀ q v L' : Int, 0 ≤ q → q < 9 → RG σ q v L' → RG τ q v L') → wp_ (kt τ) Q) :
    wp_ (bd_ (fR_times σ 9 (p + 1) (q + 2)) fun σ_14 => bd_ (fR_times σ_14 10 (p + 2) (q + 1)) fun σ_16 => bd_ (fR_add σ_16 11 9 10 true) fun σ_18 => bd_ (fR_times σ_18 12 r 11) fun σ_20 => bd_ (fR_add σ_20 15 15 12 false) kt) Q := by
  have L0 : 0 ≤ L := Int.le_trans (ii_kR_limbs hσ r).1 hx.2.2
  have M0 : 0 ≤ M := Int.le_trans (ii_kR_limbs hσ (p + 2)).1 hz1.2.2
  refine wp_bd (g_times hσ (by decide) (by decide) (by omega) (by omega) (by omega) (by omega) (by omega) (by omega) hy1 hz2 (by omega)) ?_
  rintro σ1 - ⟨h1, f1, g1, k1⟩
  refine wp_bd (g_times h1 (by decide) (by decide) (by omega) (by omega) (by omega) (by omega) (by omega) (by omega) (k1 _ _ _ (by omega) (by omega) (by omega) hz1) (k1 _ _ _ (by omega) (by omega) (by omega) hy2) (by omega)) ?_
  rintro σ2 - ⟨h2, f2, g2, k2⟩
  refine wp_bd (g_add (less := true) h2 (by decide) (by decide) (by decide) (by decide) (by decide) (by decide) (k2 _ _ _ (by decide) (by decide) (by decide) g1) (RG_le g2 (by omega)) (by omega)) ?_
  rintro σ3 - ⟨h3, f3, g3, k3⟩
  rw [if_pos rfl] at g3
  have hx3 := k3 _ _ _ r0 (by omega) (by omega) (k2 _ _ _ r0 (by omega) (by omega) (k1 _ _ _ r0 (by omega) (by omega) hx))
  refine wp_bd (g_times h3 (by decide) (by decide) (by omega) (by omega) (by decide) (by decide) (by omega) (by decide) hx3 g3 (by omega)) ?_
  rintro σ4 - ⟨h4, f4, g4, k4⟩
  have hs4 := k4 15 _ _ (by decide) (by decide) (by decide) (k3 15 _ _ (by decide) (by decide) (by decide) (k2 15 _ _ (by decide) (by decide) (by decide) (k1 15 _ _ (by decide) (by decide) (by decide) hs)))
  refine wp_bd (g_add (less := false) h4 (by decide) (by decide) (by decide) (by decide) (by decide) (by decide) hs4 (RG_le g4 (by omega)) hS) ?_
  rintro σ5 - ⟨h5, f5, g5, k5⟩
  refine hk σ5 h5 (FR3 (FR3 (FR3 (FR3 f1 f2) f3) f4) f5) g5 ?_
  intro q v L' a0 a1 h
  exact k5 _ _ _ a0 (by omega) (by omega) (k4 _ _ _ a0 (by omega) (by omega) (k3 _ _ _ a0 (by omega) (by omega) (k2 _ _ _ a0 (by omega) (by omega) (k1 _ _ _ a0 (by omega) (by omega) h))))
def R9 (σ : SG) (x1 y1 z1 x2 y2 z2 x3 y3 z3 L M : Int) : Prop := RG σ 0 x1 L ∧ RG σ 1 y1 L ∧ RG σ 2 z1 M ∧ RG σ 3 x2 L ∧ RG σ 4 y2 L ∧ RG σ 5 z2 M ∧ RG σ 6 x3 L ∧ RG σ 7 y3 L ∧ RG σ 8 z3 M
theorem R9_k {σ τ : SG} {x1 y1 z1 x2 y2 z2 x3 y3 z3 L M : Int} (h : R9 σ x1 y1 z1 x2 y2 z2 x3 y3 z3 L M) (k : ∀ q v L' : Int, 0 ≤ q → q < 9 → RG σ q v L' → RG τ q v L') : R9 τ x1 y1 z1 x2 y2 z2 x3 y3 z3 L M := by
  obtain ⟨a0, a1, a2, a3, a4, a5, a6, a7, a8⟩ := h
  exact ⟨k _ _ _ (by decide) (by decide) a0, k _ _ _ (by decide) (by decide) a1, k _ _ _ (by decide) (by decide) a2, k _ _ _ (by decide) (by decide) a3, k _ _ _ (by decide) (by decide) a4, k _ _ _ (by decide) (by decide) a5, k _ _ _ (by decide) (by decide) a6, k _ _ _ (by decide) (by decide) a7, k _ _ _ (by decide) (by decide) a8⟩
theorem g_determinant {σ : SG} {x1 y1 z1 x2 y2 z2 x3 y3 z3 L M : Int} (hσ : II σ) (h9 : R9 σ x1 y1 z1 x2 y2 z2 x3 y3 z3 L M) (hl : 2 * L + M + 4 ≤ 299) : wp_ (fR_determinant σ) (fun r => II r.2 ∧ FR [kR_limbs, kR_sign, kR_w] σ r.2 ∧ -1 ≤ r.1 ∧ r.1 ≤ 1 ∧ (r.1 = 0 ↔ x1 * (y2 * z3 - z2 * y3) + x2 * (y3 * z1 - z3 * y1) + x3 * (y1 * z2 - z1 * y2) = 0) ∧ (0 < r.1 ↔ 0 < x1 * (y2 * z3 - z2 * y3) + x2 * (y3 * z1 - z3 * y1) + x3 * (y1 * z2 - z1 * y2)) ∧ ∀ q v L' : Int, 0 ≤ q → q < 9 → RG σ q v L' → RG r.2 q v L') := by
  unfold fR_determinant
  have L0 : 0 ≤ L := Int.le_trans (ii_kR_limbs hσ 0).1 h9.1.2.2
  have M0 : 0 ≤ M := Int.le_trans (ii_kR_limbs hσ 2).1 h9.2.2.1.2.2
  refine wp_bd (g_set hσ (by decide) (by decide) (by decide) (by decide)) ?_
  rintro σ1 - ⟨h1, f1, g1, k1⟩
  have k1' : ∀ q v L' : Int, 0 ≤ q → q < 9 → RG σ q v L' → RG σ1 q v L' := fun q v L' q0 q1 h => k1 q v L' q0 (by omega) (by omega) h
  generalize hT : x1 * (y2 * z3 - z2 * y3) + x2 * (y3 * z1 - z3 * y1) + x3 * (y1 * z2 - z1 * y2) = D
  refine wp_bd (P := fun x => II x.2 ∧ FR [kR_limbs, kR_sign, kR_w] σ x.2 ∧ RG x.2 15 D (2 * L + M + 4) ∧ ∀ q v L' : Int, 0 ≤ q → q < 9 → RG σ q v L' → RG x.2 q v L') ?_ ?_
  · refine wp_whl (fun x => 0 ≤ x.1 ∧ x.1 ≤ 3 ∧ II x.2 ∧ FR [kR_limbs, kR_sign, kR_w] σ x.2 ∧ (∀ q v L' : Int, 0 ≤ q → q < 9 → RG σ q v L' → RG x.2 q v L') ∧ (x.1 = 0 → RG x.2 15 0 (2 * L + M + 1)) ∧ (x.1 = 1 → RG x.2 15 (0 + x1 * (y2 * z3 - z2 * y3)) (2 * L + M + 2)) ∧ (x.1 = 2 → RG x.2 15 (0 + x1 * (y2 * z3 - z2 * y3) + x2 * (y3 * z1 - z3 * y1)) (2 * L + M + 3)) ∧ (x.1 = 3 → RG x.2 15 (0 + x1 * (y2 * z3 - z2 * y3) + x2 * (y3 * z1 - z3 * y1) + x3 * (y1 * z2 - z1 * y2)) (2 * L + M + 4))) (fun x => (3 - x.1).toNat) ⟨by first | omega | decide | (dsimp only; omega), by first | omega | decide | (dsimp only; omega), h1, f1, k1', fun _ => ?_, fun q => absurd q (by first | omega | decide | (dsimp only; omega)), fun q => absurd q (by first | omega | decide | (dsimp only; omega)), fun q => absurd q (by first | omega | decide | (dsimp only; omega))⟩ ?_
    · exact ⟨g1.1, g1.2.1, by
        have l0 := g1.1
        have := (NR_sg h1 l0).1
        have hl := ii_kR_limbs h1 15
        have z := g1.2.1
        rcases (show σ1 kR_limbs 15 = 0 ∨ 0 < σ1 kR_limbs 15 by omega) with q | q
        · dsimp only; omega
        · exact absurd (this.mpr z) (l0.2 q).1⟩
    rintro ⟨row, τ⟩ ⟨r0, r1, hτ, hf, hk, c0, c1, c2, c3⟩
    dsimp only at r0 r1 hτ hf hk c0 c1 c2 c3 ⊢
    have h9' := R9_k h9 hk
    obtain ⟨a0, a1, a2, a3, a4, a5, a6, a7, a8⟩ := h9'
    rw [w32_of (x := row) (by omega) (by omega)]
    refine wp_if (fun h => ?_) (fun h => ?_)
    · obtain ⟨i1, i2, i3, i4, i5, i6⟩ := irm_12
      rcases (show row = 0 ∨ row = 1 ∨ row = 2 by omega) with q | q | q
      · subst q
        rw [i1, i2]
        refine g_detrow (r := 3 * 0) (p := 3 * 1) (q := 3 * 2) hτ (by decide) (by decide) (by decide) (by decide) (by decide) (by decide) a0 a4 a5 a7 a8 (c0 rfl) (by omega) (by omega) (fun υ hυ fυ gυ kυ => ?_)
        refine wp_il ⟨⟨by first | omega | decide | (dsimp only; omega), by first | omega | decide | (dsimp only; omega), hυ, FR3 hf fυ, fun q v L' q0 q1 h => kυ q v L' q0 q1 (hk q v L' q0 q1 h), fun q => absurd q (by first | omega | decide | (dsimp only; omega)), fun _ => RG_le gυ (by omega), fun q => absurd q (by first | omega | decide | (dsimp only; omega)), fun q => absurd q (by first | omega | decide | (dsimp only; omega))⟩, by first | omega | decide | (dsimp only; omega)⟩
      · subst q
        rw [i3, i4]
        refine g_detrow (r := 3 * 1) (p := 3 * 2) (q := 3 * 0) hτ (by decide) (by decide) (by decide) (by decide) (by decide) (by decide) a3 a7 a8 a1 a2 (c1 rfl) (by omega) (by omega) (fun υ hυ fυ gυ kυ => ?_)
        refine wp_il ⟨⟨by first | omega | decide | (dsimp only; omega), by first | omega | decide | (dsimp only; omega), hυ, FR3 hf fυ, fun q v L' q0 q1 h => kυ q v L' q0 q1 (hk q v L' q0 q1 h), fun q => absurd q (by first | omega | decide | (dsimp only; omega)), fun q => absurd q (by first | omega | decide | (dsimp only; omega)), fun _ => RG_le gυ (by omega), fun q => absurd q (by first | omega | decide | (dsimp only; omega))⟩, by first | omega | decide | (dsimp only; omega)⟩
      · subst q
        rw [i5, i6]
        refine g_detrow (r := 3 * 2) (p := 3 * 0) (q := 3 * 1) hτ (by decide) (by decide) (by decide) (by decide) (by decide) (by decide) a6 a1 a2 a4 a5 (c2 rfl) (by omega) (by omega) (fun υ hυ fυ gυ kυ => ?_)
        refine wp_il ⟨⟨by first | omega | decide | (dsimp only; omega), by first | omega | decide | (dsimp only; omega), hυ, FR3 hf fυ, fun q v L' q0 q1 h => kυ q v L' q0 q1 (hk q v L' q0 q1 h), fun q => absurd q (by first | omega | decide | (dsimp only; omega)), fun q => absurd q (by first | omega | decide | (dsimp only; omega)), fun q => absurd q (by first | omega | decide | (dsimp only; omega)), fun _ => RG_le gυ (by omega)⟩, by first | omega | decide | (dsimp only; omega)⟩
    · have : row = 3 := by omega
      have g := c3 this
      rw [Int.zero_add, hT] at g
      exact wp_ir ⟨hτ, hf, g, hk⟩
  · rintro ⟨row, τ⟩ - ⟨hτ, hf, hg, hk⟩
    dsimp only at hτ hf hg hk ⊢
    have w15 : w32 15 = 15 := w32_of (by decide) (by decide)
    refine wp_rd (by decide) (by decide) ?_
    have hs := ii_kR_sign hτ 15
    obtain ⟨n1, n2, n3⟩ := NR_sg hτ hg.1
    rw [hg.2.1] at n1 n2 n3
    exact wp_some ⟨hτ, hf, hs.1, hs.2, n1, n2, hk⟩
/-- the circle's sign -/
theorem v_inCircle {σ : SG} {a b c p : Int} (hσ : II σ) (a0 : 0 ≤ a) (a1 : a ≤ 1023) (b0 : 0 ≤ b) (b1 : b ≤ 1023) (c0 : 0 ≤ c) (c1 : c ≤ 1023) (p0 : 0 ≤ p) (p1 : p ≤ 1023) : wp_ (fR_inCircle σ a b c p) (fun r => II r.2 ∧ FR [kR_limbs, kR_sign, kR_w] σ r.2 ∧ -1 ≤ r.1 ∧ r.1 ≤ 1 ∧ (r.1 = 0 ↔ ci_ (σ kR_spotX a) (σ kR_spotY a) (σ kR_spotX b) (σ kR_spotY b) (σ kR_spotX c) (σ kR_spotY c) (σ kR_spotX p) (σ kR_spotY p) = 0) ∧ (0 < r.1 ↔ 0 < ci_ (σ kR_spotX a) (σ kR_spotY a) (σ kR_spotX b) (σ kR_spotY b) (σ kR_spotX c) (σ kR_spotY c) (σ kR_spotX p) (σ kR_spotY p))) := by
  unfold fR_inCircle
  have bX := fun i => ii_kR_spotX hσ i
  have bY := fun i => ii_kR_spotY hσ i
  have X := fun {τ : SG} (f : FR [kR_limbs, kR_sign, kR_w] σ τ) (i : Int) => FR_at f (c := kR_spotX) (by decide) i
  have Y := fun {τ : SG} (f : FR [kR_limbs, kR_sign, kR_w] σ τ) (i : Int) => FR_at f (c := kR_spotY) (by decide) i
  rw [w32_of (x := a) (by omega) (by omega), w32_of (x := b) (by omega) (by omega), w32_of (x := c) (by omega) (by omega), w32_of (x := p) (by omega) (by omega)]
  have ba := bX a; have bb := bX b; have bc := bX c; have bp := bX p
  have ca := bY a; have cb := bY b; have cc := bY c; have cp := bY p
  refine wp_rd a0 (by omega) (wp_rd p0 (by omega) ?_)
  refine wp_bd (g_set hσ (by decide) (by decide) (by omega) (by omega)) ?_
  rintro σ1 - ⟨h1, f1, g1, k1⟩
  refine wp_rd a0 (by omega) (wp_rd p0 (by omega) ?_)
  rw [Y f1, Y f1]
  refine wp_bd (g_set h1 (by decide) (by decide) (by omega) (by omega)) ?_
  rintro σ2 - ⟨h2, f2', g2, k2⟩
  have f2 := FR3 f1 f2'
  refine wp_rd b0 (by omega) (wp_rd p0 (by omega) ?_)
  rw [X f2, X f2]
  refine wp_bd (g_set h2 (by decide) (by decide) (by omega) (by omega)) ?_
  rintro σ3 - ⟨h3, f3', g3, k3⟩
  have f3 := FR3 f2 f3'
  refine wp_rd b0 (by omega) (wp_rd p0 (by omega) ?_)
  rw [Y f3, Y f3]
  refine wp_bd (g_set h3 (by decide) (by decide) (by omega) (by omega)) ?_
  rintro σ4 - ⟨h4, f4', g4, k4⟩
  have f4 := FR3 f3 f4'
  refine wp_rd c0 (by omega) (wp_rd p0 (by omega) ?_)
  rw [X f4, X f4]
  refine wp_bd (g_set h4 (by decide) (by decide) (by omega) (by omega)) ?_
  rintro σ5 - ⟨h5, f5', g5, k5⟩
  have f5 := FR3 f4 f5'
  refine wp_rd c0 (by omega) (wp_rd p0 (by omega) ?_)
  rw [Y f5, Y f5]
  refine wp_bd (g_set h5 (by decide) (by decide) (by omega) (by omega)) ?_
  rintro σ6 - ⟨h6, f6', g6, k6⟩
  have f6 := FR3 f5 f6'
  have r0 := k6 _ _ _ (by decide) (by decide) (by decide) (k5 _ _ _ (by decide) (by decide) (by decide) (k4 _ _ _ (by decide) (by decide) (by decide) (k3 _ _ _ (by decide) (by decide) (by decide) (k2 _ _ _ (by decide) (by decide) (by decide) g1))))
  have r1 := k6 _ _ _ (by decide) (by decide) (by decide) (k5 _ _ _ (by decide) (by decide) (by decide) (k4 _ _ _ (by decide) (by decide) (by decide) (k3 _ _ _ (by decide) (by decide) (by decide) g2)))
  have r3 := k6 _ _ _ (by decide) (by decide) (by decide) (k5 _ _ _ (by decide) (by decide) (by decide) (k4 _ _ _ (by decide) (by decide) (by decide) g3))
  have r4 := k6 _ _ _ (by decide) (by decide) (by decide) (k5 _ _ _ (by decide) (by decide) (by decide) g4)
  have r6 := k6 _ _ _ (by decide) (by decide) (by decide) g5
  have r7 := g6
  clear g1 g2 g3 g4 g5 g6 k1 k2 k3 k4 k5 k6
  refine wp_bd (P := fun x => II x.2 ∧ FR [kR_limbs, kR_sign, kR_w] σ x.2 ∧ R9 x.2 (σ kR_spotX a - σ kR_spotX p) (σ kR_spotY a - σ kR_spotY p) ((σ kR_spotX a - σ kR_spotX p) * (σ kR_spotX a - σ kR_spotX p) + (σ kR_spotY a - σ kR_spotY p) * (σ kR_spotY a - σ kR_spotY p)) (σ kR_spotX b - σ kR_spotX p) (σ kR_spotY b - σ kR_spotY p) ((σ kR_spotX b - σ kR_spotX p) * (σ kR_spotX b - σ kR_spotX p) + (σ kR_spotY b - σ kR_spotY p) * (σ kR_spotY b - σ kR_spotY p)) (σ kR_spotX c - σ kR_spotX p) (σ kR_spotY c - σ kR_spotY p) ((σ kR_spotX c - σ kR_spotX p) * (σ kR_spotX c - σ kR_spotX p) + (σ kR_spotY c - σ kR_spotY p) * (σ kR_spotY c - σ kR_spotY p)) 2 5) ?_ ?_
  · generalize σ kR_spotX a - σ kR_spotX p = x1 at *
    generalize σ kR_spotY a - σ kR_spotY p = y1 at *
    generalize σ kR_spotX b - σ kR_spotX p = x2 at *
    generalize σ kR_spotY b - σ kR_spotY p = y2 at *
    generalize σ kR_spotX c - σ kR_spotX p = x3 at *
    generalize σ kR_spotY c - σ kR_spotY p = y3 at *
    refine wp_whl (fun x => 0 ≤ x.1 ∧ x.1 ≤ 3 ∧ II x.2 ∧ FR [kR_limbs, kR_sign, kR_w] σ x.2 ∧ R6 x.2 x1 y1 x2 y2 x3 y3 2 ∧ (1 ≤ x.1 → RG x.2 2 (x1 * x1 + y1 * y1) 5) ∧ (2 ≤ x.1 → RG x.2 5 (x2 * x2 + y2 * y2) 5) ∧ (3 ≤ x.1 → RG x.2 8 (x3 * x3 + y3 * y3) 5)) (fun x => (3 - x.1).toNat) ⟨by first | omega | decide | (dsimp only; omega), by first | omega | decide | (dsimp only; omega), h6, f6, ⟨r0, r1, r3, r4, r6, r7⟩, fun q => absurd q (by first | omega | decide | (dsimp only; omega)), fun q => absurd q (by first | omega | decide | (dsimp only; omega)), fun q => absurd q (by first | omega | decide | (dsimp only; omega))⟩ ?_
    rintro ⟨row, τ⟩ ⟨w0, w1, hτ, hf, ⟨b0, b1, b3, b4, b6, b7⟩, d1, d2, d3⟩
    dsimp only at w0 w1 hτ hf b0 b1 b3 b4 b6 b7 d1 d2 d3 ⊢
    rw [w32_of (x := row) (by omega) (by omega)]
    refine wp_if (fun h => ?_) (fun h => ?_)
    · rcases (show row = 0 ∨ row = 1 ∨ row = 2 by omega) with q | q | q
      · subst q
        refine wp_bd (g_squares hτ (by decide) (by decide) b0 b1 (by decide)) ?_
        rintro υ - ⟨hυ, fυ, gυ, kυ⟩
        exact wp_il ⟨⟨by first | omega | decide | (dsimp only; omega), by first | omega | decide | (dsimp only; omega), hυ, FR3 hf fυ, ⟨kυ _ _ _ (by first | omega | decide | (dsimp only; omega)) (by first | omega | decide | (dsimp only; omega)) (by first | omega | decide | (dsimp only; omega)) (by first | omega | decide | (dsimp only; omega)) (by first | omega | decide | (dsimp only; omega)) b0, kυ _ _ _ (by first | omega | decide | (dsimp only; omega)) (by first | omega | decide | (dsimp only; omega)) (by first | omega | decide | (dsimp only; omega)) (by first | omega | decide | (dsimp only; omega)) (by first | omega | decide | (dsimp only; omega)) b1, kυ _ _ _ (by first | omega | decide | (dsimp only; omega)) (by first | omega | decide | (dsimp only; omega)) (by first | omega | decide | (dsimp only; omega)) (by first | omega | decide | (dsimp only; omega)) (by first | omega | decide | (dsimp only; omega)) b3, kυ _ _ _ (by first | omega | decide | (dsimp only; omega)) (by first | omega | decide | (dsimp only; omega)) (by first | omega | decide | (dsimp only; omega)) (by first | omega | decide | (dsimp only; omega)) (by first | omega | decide | (dsimp only; omega)) b4, kυ _ _ _ (by first | omega | decide | (dsimp only; omega)) (by first | omega | decide | (dsimp only; omega)) (by first | omega | decide | (dsimp only; omega)) (by first | omega | decide | (dsimp only; omega)) (by first | omega | decide | (dsimp only; omega)) b6, kυ _ _ _ (by first | omega | decide | (dsimp only; omega)) (by first | omega | decide | (dsimp only; omega)) (by first | omega | decide | (dsimp only; omega)) (by first | omega | decide | (dsimp only; omega)) (by first | omega | decide | (dsimp only; omega)) b7⟩, fun _ => gυ, fun q => absurd q (by first | omega | decide | (dsimp only; omega)), fun q => absurd q (by first | omega | decide | (dsimp only; omega))⟩, by first | omega | decide | (dsimp only; omega)⟩
      · subst q
        refine wp_bd (g_squares hτ (by decide) (by decide) b3 b4 (by decide)) ?_
        rintro υ - ⟨hυ, fυ, gυ, kυ⟩
        exact wp_il ⟨⟨by first | omega | decide | (dsimp only; omega), by first | omega | decide | (dsimp only; omega), hυ, FR3 hf fυ, ⟨kυ _ _ _ (by first | omega | decide | (dsimp only; omega)) (by first | omega | decide | (dsimp only; omega)) (by first | omega | decide | (dsimp only; omega)) (by first | omega | decide | (dsimp only; omega)) (by first | omega | decide | (dsimp only; omega)) b0, kυ _ _ _ (by first | omega | decide | (dsimp only; omega)) (by first | omega | decide | (dsimp only; omega)) (by first | omega | decide | (dsimp only; omega)) (by first | omega | decide | (dsimp only; omega)) (by first | omega | decide | (dsimp only; omega)) b1, kυ _ _ _ (by first | omega | decide | (dsimp only; omega)) (by first | omega | decide | (dsimp only; omega)) (by first | omega | decide | (dsimp only; omega)) (by first | omega | decide | (dsimp only; omega)) (by first | omega | decide | (dsimp only; omega)) b3, kυ _ _ _ (by first | omega | decide | (dsimp only; omega)) (by first | omega | decide | (dsimp only; omega)) (by first | omega | decide | (dsimp only; omega)) (by first | omega | decide | (dsimp only; omega)) (by first | omega | decide | (dsimp only; omega)) b4, kυ _ _ _ (by first | omega | decide | (dsimp only; omega)) (by first | omega | decide | (dsimp only; omega)) (by first | omega | decide | (dsimp only; omega)) (by first | omega | decide | (dsimp only; omega)) (by first | omega | decide | (dsimp only; omega)) b6, kυ _ _ _ (by first | omega | decide | (dsimp only; omega)) (by first | omega | decide | (dsimp only; omega)) (by first | omega | decide | (dsimp only; omega)) (by first | omega | decide | (dsimp only; omega)) (by first | omega | decide | (dsimp only; omega)) b7⟩, fun _ => kυ _ _ _ (by first | omega | decide | (dsimp only; omega)) (by first | omega | decide | (dsimp only; omega)) (by first | omega | decide | (dsimp only; omega)) (by first | omega | decide | (dsimp only; omega)) (by first | omega | decide | (dsimp only; omega)) (d1 (by first | omega | decide | (dsimp only; omega))), fun _ => gυ, fun q => absurd q (by first | omega | decide | (dsimp only; omega))⟩, by first | omega | decide | (dsimp only; omega)⟩
      · subst q
        refine wp_bd (g_squares hτ (by decide) (by decide) b6 b7 (by decide)) ?_
        rintro υ - ⟨hυ, fυ, gυ, kυ⟩
        exact wp_il ⟨⟨by first | omega | decide | (dsimp only; omega), by first | omega | decide | (dsimp only; omega), hυ, FR3 hf fυ, ⟨kυ _ _ _ (by first | omega | decide | (dsimp only; omega)) (by first | omega | decide | (dsimp only; omega)) (by first | omega | decide | (dsimp only; omega)) (by first | omega | decide | (dsimp only; omega)) (by first | omega | decide | (dsimp only; omega)) b0, kυ _ _ _ (by first | omega | decide | (dsimp only; omega)) (by first | omega | decide | (dsimp only; omega)) (by first | omega | decide | (dsimp only; omega)) (by first | omega | decide | (dsimp only; omega)) (by first | omega | decide | (dsimp only; omega)) b1, kυ _ _ _ (by first | omega | decide | (dsimp only; omega)) (by first | omega | decide | (dsimp only; omega)) (by first | omega | decide | (dsimp only; omega)) (by first | omega | decide | (dsimp only; omega)) (by first | omega | decide | (dsimp only; omega)) b3, kυ _ _ _ (by first | omega | decide | (dsimp only; omega)) (by first | omega | decide | (dsimp only; omega)) (by first | omega | decide | (dsimp only; omega)) (by first | omega | decide | (dsimp only; omega)) (by first | omega | decide | (dsimp only; omega)) b4, kυ _ _ _ (by first | omega | decide | (dsimp only; omega)) (by first | omega | decide | (dsimp only; omega)) (by first | omega | decide | (dsimp only; omega)) (by first | omega | decide | (dsimp only; omega)) (by first | omega | decide | (dsimp only; omega)) b6, kυ _ _ _ (by first | omega | decide | (dsimp only; omega)) (by first | omega | decide | (dsimp only; omega)) (by first | omega | decide | (dsimp only; omega)) (by first | omega | decide | (dsimp only; omega)) (by first | omega | decide | (dsimp only; omega)) b7⟩, fun _ => kυ _ _ _ (by first | omega | decide | (dsimp only; omega)) (by first | omega | decide | (dsimp only; omega)) (by first | omega | decide | (dsimp only; omega)) (by first | omega | decide | (dsimp only; omega)) (by first | omega | decide | (dsimp only; omega)) (d1 (by first | omega | decide | (dsimp only; omega))), fun _ => kυ _ _ _ (by first | omega | decide | (dsimp only; omega)) (by first | omega | decide | (dsimp only; omega)) (by first | omega | decide | (dsimp only; omega)) (by first | omega | decide | (dsimp only; omega)) (by first | omega | decide | (dsimp only; omega)) (d2 (by first | omega | decide | (dsimp only; omega))), fun _ => gυ⟩, by first | omega | decide | (dsimp only; omega)⟩
    · exact wp_ir ⟨hτ, hf, b0, b1, d1 (by omega), b3, b4, d2 (by omega), b6, b7, d3 (by omega)⟩
  · rintro ⟨row, τ⟩ - ⟨hτ, hf, h9⟩
    dsimp only at hτ hf h9 ⊢
    refine wp_bd (g_determinant hτ h9 (by decide)) ?_
    rintro ⟨x, υ⟩ - ⟨hυ, fυ, x0, x1, e1, e2, -⟩
    exact wp_some ⟨hυ, FR3 hf fυ, x0, x1, e1, e2⟩
end CIR
