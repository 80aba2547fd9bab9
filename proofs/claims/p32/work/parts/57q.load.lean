section LOAD
/-- what a double's bits hold, in units of the least one -/
def lm_ (b : Int) : Int := if w32 (q_lan (q_lus b 52) 2047) = 0 then q_lan b 4503599627370495 else q_lor (q_lan b 4503599627370495) 4503599627370496
def le_ (b : Int) : Int := if w32 (q_lan (q_lus b 52) 2047) = 0 then 0 else q_lan (q_lus b 52) 2047 - 1
def lh_ (b : Int) : Int := q_lsl (q_lus (lm_ b) 32) (q_irm (le_ b) 32) + q_lus (q_lsl (q_lan (lm_ b) 4294967295) (q_irm (le_ b) 32)) 32
def ld_ (b : Int) : Int := (if w64 b < 0 then -1 else 1) * (q_lan (q_lsl (q_lan (lm_ b) 4294967295) (q_irm (le_ b) 32)) 4294967295 * 2 ^ (32 * (q_idv (le_ b) 32).toNat) + q_lan (lh_ b) 4294967295 * 2 ^ (32 * ((q_idv (le_ b) 32).toNat + 1)) + q_lus (lh_ b) 32 * 2 ^ (32 * ((q_idv (le_ b) 32).toNat + 2)))
theorem le_b (b : Int) : 0 ≤ le_ b ∧ le_ b ≤ 2046 := by
  have h := q_lan_bd (q_lus b 52) (m := 2047) (by decide) (by decide)
  unfold le_
  rw [w32_of (by omega) (by omega)]
  split <;> omega
theorem idv32 {x : Int} (h0 : 0 ≤ x) (h1 : x ≤ 2046) : q_idv x 32 = x / 32 := by
  unfold q_idv
  rw [w32_of (x := x) (by omega) (by omega), w32_of (x := 32) (by decide) (by decide)]
  exact Int.tdiv_eq_ediv_of_nonneg h0
theorem lus32_b (x : Int) : 0 ≤ q_lus x 32 ∧ q_lus x 32 ≤ 4294967295 := by
  rw [lus32]; omega
theorem ld_RV {σ : SG} {r b q : Int} (q0 : 0 ≤ q) (hq : q = q_idv (le_ b) 32) (hl : σ kR_limbs r = q + 3) (hs : σ kR_sign r = if w64 b < 0 then -1 else 1) (z : ∀ i, 0 ≤ i → i < q → σ kR_w (300 * r + i) = 0) (d0 : σ kR_w (300 * r + q) = q_lan (q_lsl (q_lan (lm_ b) 4294967295) (q_irm (le_ b) 32)) 4294967295) (d1 : σ kR_w (300 * r + q + 1) = q_lan (lh_ b) 4294967295) (d2 : σ kR_w (300 * r + q + 2) = q_lus (lh_ b) 32) : RV σ r = ld_ b := by
  unfold RV ld_
  rw [hs, hl, show (q + 3).toNat = q.toNat + 1 + 1 + 1 by omega, lq_s, lq_s, lq_s, lq_z (fun i a c => z i a (by omega)), ← hq]
  rw [show 300 * r + ((q.toNat : Nat) : Int) = 300 * r + q by omega, show 300 * r + ((q.toNat + 1 : Nat) : Int) = 300 * r + q + 1 by omega, show 300 * r + ((q.toNat + 1 + 1 : Nat) : Int) = 300 * r + q + 2 by omega, d0, d1, d2, Int.zero_add]
theorem KP_w {σ τ : SG} {r : Int} (hσ : II σ) (hw : ∀ i, (i < 300 * r ∨ 300 * r + 300 ≤ i) → τ kR_w i = σ kR_w i) (hl : ∀ q, q ≠ r → τ kR_limbs q = σ kR_limbs q) (hs : ∀ q, q ≠ r → τ kR_sign q = σ kR_sign q) : KP r σ τ := KP_of hσ (fun q _ _ n => ⟨hl q n, hs q n, fun i i0 i1 => hw _ (by omega)⟩)
theorem KP_tr {t : Int} {σ τ υ : SG} (a : KP t σ τ) (b : KP t τ υ) : KP t σ υ := fun q v L q0 q1 n h => b q v L q0 q1 n (a q v L q0 q1 n h)
end LOAD
section BETW
/-- all registers but some are kept -/
def KN (ts : List Int) (σ τ : SG) : Prop := ∀ q v L : Int, 0 ≤ q → q < 20 → (∀ t ∈ ts, q ≠ t) → RG σ q v L → RG τ q v L
/-- a difference of ordinates -/
def dfb_ (σ : SG) (isX : Bool) (p q : Int) : Int := ld_ (if isX = true then σ kR_signX p else σ kR_signY p) - ld_ (if isX = true then σ kR_signX q else σ kR_signY q)
/-- some squares are laid -/
def RS9 (σ : SG) (row x1 y1 x2 y2 x3 y3 : Int) : Prop := R6 σ x1 y1 x2 y2 x3 y3 67 ∧ (1 ≤ row → RG σ 2 (x1 * x1 + y1 * y1) 135) ∧ (2 ≤ row → RG σ 5 (x2 * x2 + y2 * y2) 135) ∧ (3 ≤ row → RG σ 8 (x3 * x3 + y3 * y3) 135)
theorem s_R_squares {σ : SG} {row_0 x1 y1 x2 y2 x3 y3 : Int} (hσ : II σ) (w0 : 0 ≤ row_0 ∧ row_0 < 3) (w1 : RS9 σ row_0 x1 y1 x2 y2 x3 y3) : wp_ (fR_squares σ row_0) (fun zz_ => II zz_ ∧ FR [kR_limbs, kR_sign, kR_w] σ zz_ ∧ RS9 zz_ (row_0 + 1) x1 y1 x2 y2 x3 y3) := by
  obtain ⟨⟨b0, b1, b3, b4, b6, b7⟩, d1, d2, d3⟩ := w1
  rcases (show row_0 = 0 ∨ row_0 = 1 ∨ row_0 = 2 by omega) with q | q | q
  · subst q
    refine wp_mono (g_squares (L := 67) hσ (by decide) (by decide) b0 b1 (by decide)) ?_
    rintro υ ⟨hυ, fυ, gυ, kυ⟩
    have K := fun q v (h0 : 0 ≤ q ∧ q < 20 ∧ q ≠ 2 ∧ q ≠ 9 ∧ q ≠ 10) L h => kυ q v L h0.1 h0.2.1 h0.2.2.1 h0.2.2.2.1 h0.2.2.2.2 h
    exact ⟨hυ, fυ, ⟨K 0 _ (by decide) _ b0, K 1 _ (by decide) _ b1, K 3 _ (by decide) _ b3, K 4 _ (by decide) _ b4, K 6 _ (by decide) _ b6, K 7 _ (by decide) _ b7⟩, fun _ => gυ, fun z => absurd z (by decide), fun z => absurd z (by decide)⟩
  · subst q
    refine wp_mono (g_squares (L := 67) hσ (by decide) (by decide) b3 b4 (by decide)) ?_
    rintro υ ⟨hυ, fυ, gυ, kυ⟩
    have K := fun q v (h0 : 0 ≤ q ∧ q < 20 ∧ q ≠ 5 ∧ q ≠ 9 ∧ q ≠ 10) L h => kυ q v L h0.1 h0.2.1 h0.2.2.1 h0.2.2.2.1 h0.2.2.2.2 h
    exact ⟨hυ, fυ, ⟨K 0 _ (by decide) _ b0, K 1 _ (by decide) _ b1, K 3 _ (by decide) _ b3, K 4 _ (by decide) _ b4, K 6 _ (by decide) _ b6, K 7 _ (by decide) _ b7⟩, fun _ => K 2 _ (by decide) _ (d1 (by decide)), fun _ => gυ, fun z => absurd z (by decide)⟩
  · subst q
    refine wp_mono (g_squares (L := 67) hσ (by decide) (by decide) b6 b7 (by decide)) ?_
    rintro υ ⟨hυ, fυ, gυ, kυ⟩
    have K := fun q v (h0 : 0 ≤ q ∧ q < 20 ∧ q ≠ 8 ∧ q ≠ 9 ∧ q ≠ 10) L h => kυ q v L h0.1 h0.2.1 h0.2.2.1 h0.2.2.2.1 h0.2.2.2.2 h
    exact ⟨hυ, fυ, ⟨K 0 _ (by decide) _ b0, K 1 _ (by decide) _ b1, K 3 _ (by decide) _ b3, K 4 _ (by decide) _ b4, K 6 _ (by decide) _ b6, K 7 _ (by decide) _ b7⟩, fun _ => K 2 _ (by decide) _ (d1 (by decide)), fun _ => K 5 _ (by decide) _ (d2 (by decide)), fun _ => gυ⟩
theorem s_R_determinant {σ : SG} {x1 y1 x2 y2 x3 y3 : Int} (hσ : II σ) (w0 : RS9 σ 3 x1 y1 x2 y2 x3 y3) : wp_ (fR_determinant σ) (fun zz_ => II zz_.2 ∧ FR [kR_limbs, kR_sign, kR_w] σ zz_.2 ∧ (-1 ≤ zz_.1 ∧ zz_.1 ≤ 1) ∧ (zz_.1 = 0 ↔ x1 * (y2 * (x3 * x3 + y3 * y3) - (x2 * x2 + y2 * y2) * y3) + x2 * (y3 * (x1 * x1 + y1 * y1) - (x3 * x3 + y3 * y3) * y1) + x3 * (y1 * (x2 * x2 + y2 * y2) - (x1 * x1 + y1 * y1) * y2) = 0) ∧ (0 < zz_.1 ↔ 0 < x1 * (y2 * (x3 * x3 + y3 * y3) - (x2 * x2 + y2 * y2) * y3) + x2 * (y3 * (x1 * x1 + y1 * y1) - (x3 * x3 + y3 * y3) * y1) + x3 * (y1 * (x2 * x2 + y2 * y2) - (x1 * x1 + y1 * y1) * y2))) := by
  obtain ⟨⟨b0, b1, b3, b4, b6, b7⟩, d1, d2, d3⟩ := w0
  refine wp_mono (g_determinant (L := 67) (M := 135) hσ ⟨b0, b1, d1 (by decide), b3, b4, d2 (by decide), b6, b7, d3 (by decide)⟩ (by decide)) ?_
  rintro ⟨x, υ⟩ ⟨hυ, fυ, x0, x1', e1, e2, -⟩
  exact ⟨hυ, fυ, ⟨x0, x1'⟩, e1, e2⟩
end BETW
