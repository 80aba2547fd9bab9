section CVO
theorem CLi_xy {σ τ : SG} (f : FC CLi [] σ τ) : τ kI_x = σ kI_x ∧ τ kI_y = σ kI_y := ⟨funext fun i => FC_at f (by decide) i, funext fun i => FC_at f (by decide) i⟩
theorem CG_le {σ : SG} {r v L M : Int} (g : CGr σ r v L) (h : L ≤ M) : CGr σ r v M := ⟨g.1, g.2.1, Int.le_trans g.2.2 h⟩
/-- twice the area of three points of the signs -/
def sdV (px py : Int → Int) (i j k : Int) : Int := (ld_ (px j) - ld_ (px i)) * (ld_ (py k) - ld_ (py i)) - (ld_ (py j) - ld_ (py i)) * (ld_ (px k) - ld_ (px i))
theorem v_I_sideSign {σ : SG} {i j k : Int} (hσ : II σ) (i0 : 0 ≤ i) (i1 : i < 32) (j0 : 0 ≤ j) (j1 : j < 32) (k0 : 0 ≤ k) (k1 : k < 32) : wp_ (fI_sideSign σ i j k) (fun z => z.1 = Int.sign (sdV (σ kI_x) (σ kI_y) i j k)) := by
  unfold fI_sideSign
  rw [w32_of (x := i) (by omega) (by omega), w32_of (x := j) (by omega) (by omega), w32_of (x := k) (by omega) (by omega)]
  refine wp_rd j0 j1 (wp_rd i0 i1 (wp_bd (g_difference (t := 2) hσ (by decide) (by decide)) ?_))
  rintro σ1 - ⟨h1, f1, g2, -⟩
  obtain ⟨x1, y1⟩ := CLi_xy f1
  refine wp_rd k0 k1 (wp_rd i0 i1 (wp_bd (g_difference (t := 3) h1 (by decide) (by decide)) ?_))
  rintro σ2 - ⟨h2, f2, g3, c2⟩
  obtain ⟨x2, y2⟩ := CLi_xy f2
  have g2 := c2 2 _ _ (by decide) (by decide) (by decide) g2
  refine wp_rd j0 j1 (wp_rd i0 i1 (wp_bd (g_difference (t := 4) h2 (by decide) (by decide)) ?_))
  rintro σ3 - ⟨h3, f3, g4, c3⟩
  obtain ⟨x3, y3⟩ := CLi_xy f3
  have g2 := c3 2 _ _ (by decide) (by decide) (by decide) g2
  have g3 := c3 3 _ _ (by decide) (by decide) (by decide) g3
  refine wp_rd k0 k1 (wp_rd i0 i1 (wp_bd (g_difference (t := 5) h3 (by decide) (by decide)) ?_))
  rintro σ4 - ⟨h4, f4, g5, c4⟩
  have g2 := c4 2 _ _ (by decide) (by decide) (by decide) g2
  have g3 := c4 3 _ _ (by decide) (by decide) (by decide) g3
  have g4 := c4 4 _ _ (by decide) (by decide) (by decide) g4
  rw [y1] at g3
  rw [y2, y1] at g4
  rw [x3, x2, x1] at g5
  refine wp_bd (g_multiply (t := 6) (a := 2) (b := 3) h4 (by decide) (by decide) (by decide) (by decide) (by decide) (by decide) (by decide) (by decide) g2 g3 (by decide)) ?_
  rintro σ5 - ⟨h5, -, g6, d5⟩
  have g4 := CG_f d5 (by decide) (by decide) (by decide) (by decide) (by decide) g4
  have g5 := CG_f d5 (by decide) (by decide) (by decide) (by decide) (by decide) g5
  refine wp_bd (g_multiply (t := 7) (a := 4) (b := 5) h5 (by decide) (by decide) (by decide) (by decide) (by decide) (by decide) (by decide) (by decide) g4 g5 (by decide)) ?_
  rintro σ6 - ⟨h6, -, g7, d6⟩
  have g6 := CG_f d6 (by decide) (by decide) (by decide) (by decide) (by decide) g6
  refine wp_bd (g_addSigned (t := 8) (a := 6) (b := 7) (f := -1) h6 (by decide) (by decide) (by decide) (by decide) (by decide) (by decide) (by decide) (by decide) (Or.inr rfl) g6 g7 (by decide)) ?_
  rintro σ7 - ⟨h7, -, g8, -⟩
  refine wp_rd (by decide) (by decide) (wp_some ?_)
  show σ7 kI_sign 8 = _
  rw [CG_sg h7 g8]
  unfold sdV
  congr 1
  generalize (ld_ (σ kI_x j) - ld_ (σ kI_x i)) * (ld_ (σ kI_y k) - ld_ (σ kI_y i)) = A
  generalize (ld_ (σ kI_y j) - ld_ (σ kI_y i)) * (ld_ (σ kI_x k) - ld_ (σ kI_x i)) = B
  omega
theorem g_putTerm {σ : SG} {t p q r ax ay bx b2 cx cy : Int} (hσ : II σ) (ht : 8 ≤ t ∧ t ≤ 12) (hp : 2 ≤ p ∧ p ≤ 6) (hq : 2 ≤ q ∧ q ≤ 6) (hr : 2 ≤ r ∧ r ≤ 6) (g1 : CGr σ p ax 67) (g2 : CGr σ (p + 1) ay 67) (g3 : CGr σ q bx 67) (g4 : CGr σ (q + 1) b2 67) (g5 : CGr σ r cx 67) (g6 : CGr σ (r + 1) cy 67) : wp_ (fI_putTerm σ t p q r) (fun τ => II τ ∧ FC CLi [] σ τ ∧ CGr τ t ((ax * ax + ay * ay) * (bx * cy - b2 * cx)) 270 ∧ CK [13, 14, 15, 0, t] σ τ) := by
  have key : wp_ (fI_putTerm σ t p q r) (fun τ => CGr τ t ((ax * ax + ay * ay) * (bx * cy - b2 * cx)) 270 ∧ CK [13, 14, 15, 0, t] σ τ) := by
    unfold fI_putTerm
    refine wp_bd (g_multiply (t := 13) (a := p) (b := p) hσ (by decide) (by decide) (by omega) (by omega) (by omega) (by omega) (by omega) (by omega) g1 g1 (by decide)) ?_
    rintro σ1 - ⟨h1, -, m1, d1⟩
    have k2 := CG_f d1 (by decide) (by decide) (by omega) (by omega) (by omega) g2
    refine wp_bd (g_multiply (t := 14) (a := p + 1) (b := p + 1) h1 (by decide) (by decide) (by omega) (by omega) (by omega) (by omega) (by omega) (by omega) k2 k2 (by decide)) ?_
    rintro σ2 - ⟨h2, -, m2, d2⟩
    have m1 := CG_f d2 (by decide) (by decide) (by decide) (by decide) (by decide) m1
    refine wp_bd (g_addSigned (t := 15) (a := 13) (b := 14) (f := 1) h2 (by decide) (by decide) (by decide) (by decide) (by decide) (by decide) (by decide) (by decide) (Or.inl rfl) m1 m2 (by decide)) ?_
    rintro σ3 - ⟨h3, -, m3, d3⟩
    have up : ∀ {x v L : Int}, 2 ≤ x → x ≤ 7 → CGr σ x v L → CGr σ3 x v L := fun a b g => CG_f d3 (by decide) (by decide) (by omega) (by omega) (by omega) (CG_f d2 (by decide) (by decide) (by omega) (by omega) (by omega) (CG_f d1 (by decide) (by decide) (by omega) (by omega) (by omega) g))
    have k3 := up (by omega) (by omega) g3
    have k4 := up (by omega) (by omega) g4
    have k5 := up (by omega) (by omega) g5
    have k6 := up (by omega) (by omega) g6
    refine wp_bd (g_multiply (t := 13) (a := q) (b := r + 1) h3 (by decide) (by decide) (by omega) (by omega) (by omega) (by omega) (by omega) (by omega) k3 k6 (by decide)) ?_
    rintro σ4 - ⟨h4, -, m4, d4⟩
    have k4 := CG_f d4 (by decide) (by decide) (by omega) (by omega) (by omega) k4
    have k5 := CG_f d4 (by decide) (by decide) (by omega) (by omega) (by omega) k5
    have m3 := CG_f d4 (by decide) (by decide) (by decide) (by decide) (by decide) m3
    refine wp_bd (g_multiply (t := 14) (a := q + 1) (b := r) h4 (by decide) (by decide) (by omega) (by omega) (by omega) (by omega) (by omega) (by omega) k4 k5 (by decide)) ?_
    rintro σ5 - ⟨h5, -, m5, d5⟩
    have m3 := CG_f d5 (by decide) (by decide) (by decide) (by decide) (by decide) m3
    have m4 := CG_f d5 (by decide) (by decide) (by decide) (by decide) (by decide) m4
    refine wp_bd (g_addSigned (t := 0) (a := 13) (b := 14) (f := -1) h5 (by decide) (by decide) (by decide) (by decide) (by decide) (by decide) (by decide) (by decide) (Or.inr rfl) m4 m5 (by decide)) ?_
    rintro σ6 - ⟨h6, -, m6, d6⟩
    have m3 := CG_f d6 (by decide) (by decide) (by decide) (by decide) (by decide) m3
    refine wp_bd (g_multiply (t := t) (a := 15) (b := 0) h6 (by omega) (by omega) (by decide) (by decide) (by decide) (by decide) (by omega) (by omega) m3 m6 (by decide)) ?_
    rintro σ7 - ⟨h7, -, m7, d7⟩
    refine wp_some ⟨?_, fun x v L x0 x1 h g => ?_⟩
    · have e : (ax * ax + ay * ay) * (bx * cy - b2 * cx) = (ax * ax + 1 * (ay * ay)) * (bx * cy + -1 * (b2 * cx)) := by
        rw [Int.one_mul, show bx * cy + -1 * (b2 * cx) = bx * cy - b2 * cx by omega]
      rw [e]; exact m7
    · have n13 : x ≠ 13 := h 13 (by simp)
      have n14 : x ≠ 14 := h 14 (by simp)
      have n15 : x ≠ 15 := h 15 (by simp)
      have n0 : x ≠ 0 := h 0 (by simp)
      have nt : x ≠ t := h t (by simp)
      exact CG_f d7 (by omega) (by omega) x0 x1 nt (CG_f d6 (by decide) (by decide) x0 x1 n0 (CG_f d5 (by decide) (by decide) x0 x1 n14 (CG_f d4 (by decide) (by decide) x0 x1 n13 (CG_f d3 (by decide) (by decide) x0 x1 n15 (CG_f d2 (by decide) (by decide) x0 x1 n14 (CG_f d1 (by decide) (by decide) x0 x1 n13 g))))))
  refine wp_mono (wp_and (s_I_putTerm hσ ⟨by omega, by omega⟩ ⟨by omega, by omega⟩ ⟨by omega, by omega⟩ ⟨by omega, by omega⟩) key) ?_
  rintro τ ⟨⟨a, b⟩, c, d⟩
  exact ⟨a, b, c, d⟩
/-- the determinant of four points of the signs -/
def ccW (x1 y1 x2 y2 x3 y3 : Int) : Int := x1 * (y2 * (x3 * x3 + y3 * y3) - (x2 * x2 + y2 * y2) * y3) + x2 * (y3 * (x1 * x1 + y1 * y1) - (x3 * x3 + y3 * y3) * y1) + x3 * (y1 * (x2 * x2 + y2 * y2) - (x1 * x1 + y1 * y1) * y2)
theorem ccW_e (x1 y1 x2 y2 x3 y3 : Int) : (x1 * x1 + y1 * y1) * (x2 * y3 - y2 * x3) + 1 * ((x2 * x2 + y2 * y2) * (x3 * y1 - y3 * x1)) + 1 * ((x3 * x3 + y3 * y3) * (x1 * y2 - y1 * x2)) = ccW x1 y1 x2 y2 x3 y3 := by
  unfold ccW
  grind
def ccV (px py : Int → Int) (i j k l : Int) : Int := ccW (ld_ (px i) - ld_ (px l)) (ld_ (py i) - ld_ (py l)) (ld_ (px j) - ld_ (px l)) (ld_ (py j) - ld_ (py l)) (ld_ (px k) - ld_ (px l)) (ld_ (py k) - ld_ (py l))
theorem v_I_circleSign {σ : SG} {i j k l : Int} (hσ : II σ) (i0 : 0 ≤ i) (i1 : i < 32) (j0 : 0 ≤ j) (j1 : j < 32) (k0 : 0 ≤ k) (k1 : k < 32) (l0 : 0 ≤ l) (l1 : l < 32) : wp_ (fI_circleSign σ i j k l) (fun z => z.1 = Int.sign (ccV (σ kI_x) (σ kI_y) i j k l)) := by
  unfold fI_circleSign
  rw [w32_of (x := i) (by omega) (by omega), w32_of (x := j) (by omega) (by omega), w32_of (x := k) (by omega) (by omega), w32_of (x := l) (by omega) (by omega)]
  refine wp_rd i0 i1 (wp_rd l0 l1 (wp_bd (g_difference (t := 2) hσ (by decide) (by decide)) ?_))
  rintro σ1 - ⟨h1, f1, g2, -⟩
  obtain ⟨x1, y1⟩ := CLi_xy f1
  refine wp_rd i0 i1 (wp_rd l0 l1 (wp_bd (g_difference (t := 3) h1 (by decide) (by decide)) ?_))
  rintro σ2 - ⟨h2, f2, g3, c2⟩
  obtain ⟨x2, y2⟩ := CLi_xy f2
  rw [x1] at x2
  rw [y1] at y2 g3
  have g2 := c2 2 _ _ (by decide) (by decide) (by decide) g2
  refine wp_rd j0 j1 (wp_rd l0 l1 (wp_bd (g_difference (t := 4) h2 (by decide) (by decide)) ?_))
  rintro σ3 - ⟨h3, f3, g4, c3⟩
  obtain ⟨x3, y3⟩ := CLi_xy f3
  rw [x2] at x3 g4
  rw [y2] at y3
  have g2 := c3 2 _ _ (by decide) (by decide) (by decide) g2
  have g3 := c3 3 _ _ (by decide) (by decide) (by decide) g3
  refine wp_rd j0 j1 (wp_rd l0 l1 (wp_bd (g_difference (t := 5) h3 (by decide) (by decide)) ?_))
  rintro σ4 - ⟨h4, f4, g5, c4⟩
  obtain ⟨x4, y4⟩ := CLi_xy f4
  rw [x3] at x4
  rw [y3] at y4 g5
  have g2 := c4 2 _ _ (by decide) (by decide) (by decide) g2
  have g3 := c4 3 _ _ (by decide) (by decide) (by decide) g3
  have g4 := c4 4 _ _ (by decide) (by decide) (by decide) g4
  refine wp_rd k0 k1 (wp_rd l0 l1 (wp_bd (g_difference (t := 6) h4 (by decide) (by decide)) ?_))
  rintro σ5 - ⟨h5, f5, g6, c5⟩
  obtain ⟨x5, y5⟩ := CLi_xy f5
  rw [x4] at x5 g6
  rw [y4] at y5
  have g2 := c5 2 _ _ (by decide) (by decide) (by decide) g2
  have g3 := c5 3 _ _ (by decide) (by decide) (by decide) g3
  have g4 := c5 4 _ _ (by decide) (by decide) (by decide) g4
  have g5 := c5 5 _ _ (by decide) (by decide) (by decide) g5
  refine wp_rd k0 k1 (wp_rd l0 l1 (wp_bd (g_difference (t := 7) h5 (by decide) (by decide)) ?_))
  rintro σ6 - ⟨h6, f6, g7, c6⟩
  rw [y5] at g7
  have g2 := c6 2 _ _ (by decide) (by decide) (by decide) g2
  have g3 := c6 3 _ _ (by decide) (by decide) (by decide) g3
  have g4 := c6 4 _ _ (by decide) (by decide) (by decide) g4
  have g5 := c6 5 _ _ (by decide) (by decide) (by decide) g5
  have g6 := c6 6 _ _ (by decide) (by decide) (by decide) g6
  clear c2 c3 c4 c5 c6
  unfold ccV
  generalize ld_ (σ kI_x i) - ld_ (σ kI_x l) = X1 at g2 ⊢
  generalize ld_ (σ kI_y i) - ld_ (σ kI_y l) = Y1 at g3 ⊢
  generalize ld_ (σ kI_x j) - ld_ (σ kI_x l) = X2 at g4 ⊢
  generalize ld_ (σ kI_y j) - ld_ (σ kI_y l) = Y2 at g5 ⊢
  generalize ld_ (σ kI_x k) - ld_ (σ kI_x l) = X3 at g6 ⊢
  generalize ld_ (σ kI_y k) - ld_ (σ kI_y l) = Y3 at g7 ⊢
  refine wp_bd (g_putTerm (t := 8) (p := 2) (q := 4) (r := 6) h6 (by decide) (by decide) (by decide) (by decide) g2 g3 g4 g5 g6 g7) ?_
  rintro σ7 - ⟨h7, -, m8, c7⟩
  have g2 := c7 2 _ _ (by decide) (by decide) (by decide) g2
  have g3 := c7 3 _ _ (by decide) (by decide) (by decide) g3
  have g4 := c7 4 _ _ (by decide) (by decide) (by decide) g4
  have g5 := c7 5 _ _ (by decide) (by decide) (by decide) g5
  have g6 := c7 6 _ _ (by decide) (by decide) (by decide) g6
  have g7 := c7 7 _ _ (by decide) (by decide) (by decide) g7
  refine wp_bd (g_putTerm (t := 9) (p := 4) (q := 6) (r := 2) h7 (by decide) (by decide) (by decide) (by decide) g4 g5 g6 g7 g2 g3) ?_
  rintro σ8 - ⟨h8, -, m9, c8⟩
  have g2 := c8 2 _ _ (by decide) (by decide) (by decide) g2
  have g3 := c8 3 _ _ (by decide) (by decide) (by decide) g3
  have g4 := c8 4 _ _ (by decide) (by decide) (by decide) g4
  have g5 := c8 5 _ _ (by decide) (by decide) (by decide) g5
  have g6 := c8 6 _ _ (by decide) (by decide) (by decide) g6
  have g7 := c8 7 _ _ (by decide) (by decide) (by decide) g7
  have m8 := c8 8 _ _ (by decide) (by decide) (by decide) m8
  refine wp_bd (g_putTerm (t := 10) (p := 6) (q := 2) (r := 4) h8 (by decide) (by decide) (by decide) (by decide) g6 g7 g2 g3 g4 g5) ?_
  rintro σ9 - ⟨h9, -, m10, c9⟩
  have m8 := c9 8 _ _ (by decide) (by decide) (by decide) m8
  have m9 := c9 9 _ _ (by decide) (by decide) (by decide) m9
  refine wp_bd (g_addSigned (t := 11) (a := 8) (b := 9) (f := 1) h9 (by decide) (by decide) (by decide) (by decide) (by decide) (by decide) (by decide) (by decide) (Or.inl rfl) m8 m9 (by decide)) ?_
  rintro σ10 - ⟨h10, -, m11, d10⟩
  have m10 := CG_le (CG_f d10 (by decide) (by decide) (by decide) (by decide) (by decide) m10) (show (270 : Int) ≤ 270 + 1 by decide)
  refine wp_bd (g_addSigned (t := 12) (a := 11) (b := 10) (f := 1) h10 (by decide) (by decide) (by decide) (by decide) (by decide) (by decide) (by decide) (by decide) (Or.inl rfl) m11 m10 (by decide)) ?_
  rintro σ11 - ⟨h11, -, m12, -⟩
  refine wp_rd (by decide) (by decide) (wp_some ?_)
  show σ11 kI_sign 12 = _
  rw [CG_sg h11 m12, ccW_e]
end CVO
