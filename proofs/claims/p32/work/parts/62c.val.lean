section CVN
def CLi : List Nat := [65536, 65792, 66048, 66304, 66560, 66816, 67072, 67328, 67584, 67840, 68096, 68352, 68608, 68864, 69120, 69376, kI_sign, kI_used]
set_option maxRecDepth 20000 in
theorem sh5 : ∀ n : Nat, n < 2048 → q_isr (n : Int) 5 = (n : Int) / 32 ∧ q_ian (n : Int) 31 = (n : Int) % 32 ∧ q_irm (n : Int) 32 = (n : Int) % 32 := by decide +kernel
theorem ian2047 (x : Int) : q_ian x 2047 = x % 2048 := by
  show ((Int32.ofInt x).toBitVec &&& (Int32.ofInt 2047).toBitVec).toInt = _
  have ha : (Int32.ofInt x).toBitVec.toNat = (x % 4294967296).toNat := by
    show (BitVec.ofInt 32 x).toNat = _
    rw [BitVec.toNat_ofInt]; rfl
  have hb : (Int32.ofInt 2047).toBitVec.toNat = 2 ^ 11 - 1 := by decide
  have hc : ((Int32.ofInt x).toBitVec &&& (Int32.ofInt 2047).toBitVec).toNat = (x % 4294967296).toNat % 2048 := by
    rw [BitVec.toNat_and, hb, ha, Nat.and_two_pow_sub_one_eq_mod]
  have h0 : (0 : Int) ≤ x % 4294967296 := Int.emod_nonneg _ (by decide)
  rw [BitVec.toInt_eq_toNat_of_lt (by omega), hc]
  omega
theorem lan2047 (x : Int) : q_lan x 2047 = x % 2048 := lan_p x (k := 11) (by decide) (by decide)
theorem lor_comm (x y : Int) : q_lor x y = q_lor y x := by unfold q_lor; rw [Int64.or_comm]
theorem lor52 {u : Int} (u0 : 0 ≤ u) (u1 : u < 4503599627370496) : q_lor u 4503599627370496 = u + 4503599627370495 + 1 := by
  rw [lor_comm]
  have h := lor_lsl (a := 1) (b := u) (k := 52) (by decide) (by decide) (by rw [show (1 : Int) * 2 ^ 52 = 4503599627370496 by decide]; omega) u0 (by rw [show (2 : Int) ^ 52 = 4503599627370496 by decide]; exact u1)
  rw [show q_lsl 1 ((52 : Nat) : Int) = 4503599627370496 by decide, show (1 : Int) * 2 ^ 52 = 4503599627370496 by decide] at h
  rw [h]; omega
/-- what the class and the reference both take out of a double's bits -/
theorem ld_parts (b : Int) : (if (w32 (q_ian (q_lus b 52) 2047)) = 0 then (q_lan b 4503599627370495) else (((q_lan b 4503599627370495) + 4503599627370495) + 1)) = lm_ b ∧ q_mxi ((q_ian (q_lus b 52) 2047) - 1) 0 = le_ b := by
  have h1 := ian2047 (q_lus b 52)
  have h2 := lan2047 (q_lus b 52)
  have hr : 0 ≤ q_lus b 52 % 2048 ∧ q_lus b 52 % 2048 < 2048 := by omega
  have hu := q_lan_bd b (m := 4503599627370495) (by decide) (by decide)
  constructor
  · unfold lm_
    rw [h1, h2]
    by_cases q : w32 (q_lus b 52 % 2048) = 0
    · rw [if_pos q, if_pos q]
    · rw [if_neg q, if_neg q, lor52 hu.1 (by omega)]
  · have h3 := q_mxi_bd (q_ian (q_lus b 52) 2047 - 1) 0
    unfold le_
    rw [h1] at h3 ⊢
    rw [h2]
    rw [w32_of (x := q_lus b 52 % 2048 - 1) (by omega) (by omega), w32_of (x := 0) (by decide) (by decide)] at h3
    rw [w32_of (x := q_lus b 52 % 2048) (by omega) (by omega)]
    split <;> omega
theorem v_I_load {σ : SG} {t bits : Int} (hσ : II σ) (t0 : 0 ≤ t) (t1 : t < 16) : wp_ (fI_load σ t bits) (fun τ => CGr τ t (ld_ bits) 66 ∧ CFr t σ τ) := by
  unfold fI_load
  obtain ⟨p1, p2⟩ := ld_parts bits
  have hb := le_b bits
  obtain ⟨n, hn⟩ : ∃ n : Nat, le_ bits = n := ⟨(le_ bits).toNat, by omega⟩
  obtain ⟨s1, s2, s3⟩ := sh5 n (by omega)
  have hi := idv32 hb.1 hb.2
  rw [p1, p2, w32_of (x := t) (by omega) (by omega)]
  rw [← hn] at s1 s2 s3
  rw [s1]
  obtain ⟨q, hq⟩ : ∃ q : Nat, le_ bits / 32 = q := ⟨(le_ bits / 32).toNat, by omega⟩
  have q1 : q ≤ 63 := by omega
  rw [hq] at hi ⊢
  rw [w32_of (x := (q : Int)) (by omega) (by omega), w32_of (x := (q : Int) + 1) (by omega) (by omega), w32_of (x := (q : Int) + 2) (by omega) (by omega)]
  refine wp_lt (fun x2 e2 => wp_lt (fun x3 e3 => wp_ck ⟨t0, t1⟩ ?_))
  subst e2
  rw [s2, ← s3] at e3
  subst e3
  refine wp_bd (v_fillIR hσ (by omega) (by rw [bI_limb (by omega)]; exact trivial) (by decide) ⟨by omega, by omega, by omega⟩) ?_
  rintro σ6 - ⟨h6, f0, f1⟩
  have f2 := FC_one f0
  refine wp_lt (fun x7 e7 => wp_ck ⟨t0, t1⟩ ?_)
  have e7 : x7 = lh_ bits := e7
  subst e7
  refine wp_waN h6 (bI_limb (by omega)) (by omega) (by omega) (fun σ9 h9 e9 => wp_ck ⟨t0, t1⟩ ?_)
  refine wp_waN h9 (bI_limb (by omega)) (by omega) (by omega) (fun σ12 h12 e12 => wp_ck ⟨t0, t1⟩ ?_)
  refine wp_waN h12 (bI_limb (by omega)) (by omega) (by omega) (fun σ15 h15 e15 => ?_)
  refine wp_waI h15 b_kI_used t0 t1 (by omega) (fun σ17 h17 e17 => ?_)
  refine wp_waI h17 b_kI_sign t0 t1 (by split <;> decide) (fun σ20 h20 e20 => ?_)
  have u : σ20 kI_used t = (q : Int) + 3 := by rw [e20, sg_nc (by decide), e17, sg_at]
  have g : σ20 kI_sign t = if w64 bits < 0 then -1 else 1 := by rw [e20, sg_at]
  have w : ∀ i, σ20 ((256 + t.toNat) * 256) i = σ15 ((256 + t.toNat) * 256) i := fun i => by rw [e20, sg_nc (fun z => nS t1 z.symm), e17, sg_nc (fun z => nU t1 z.symm)]
  have d2 : qw_ σ20 t ((q : Int) + 2) = q_lus (lh_ bits) 32 := by
    have := lus32_b (lh_ bits)
    unfold qw_
    rw [w, e15, sg_at]; omega
  have d1 : qw_ σ20 t ((q : Int) + 1) = q_lan (lh_ bits) 4294967295 := by
    unfold qw_
    rw [w, e15, sg_ni (by omega), e12, sg_at, lan32]
  have d0 : qw_ σ20 t (q : Int) = q_lan (q_lsl (q_lan (lm_ bits) 4294967295) (q_irm (le_ bits) 32)) 4294967295 := by
    unfold qw_
    rw [w, e15, sg_ni (by omega), e12, sg_ni (by omega), e9, sg_at]
    exact (lan32 _).symm
  have dz : ∀ i : Int, 0 ≤ i → i < (q : Nat) → qw_ σ20 t (0 + i) = 0 := by
    intro i i0 i1
    unfold qw_
    rw [Int.zero_add, w, e15, sg_ni (by omega), e12, sg_ni (by omega), e9, sg_ni (by omega), f1 i i0 (by omega)]; rfl
  have hv : σ20 kI_sign t * qz_ σ20 t = ld_ bits := by
    show σ20 kI_sign t * lq_ (qw_ σ20 t) 0 (σ20 kI_used t).toNat = _
    unfold ld_
    rw [g, u, show ((q : Int) + 3).toNat = q + 1 + 1 + 1 by omega, lq_s, lq_s, lq_s, lq_z dz, hi, show ((q : Nat) : Int).toNat = q by omega]
    rw [show (0 : Int) + ((q : Nat) : Int) = q by omega, show (0 : Int) + ((q + 1 : Nat) : Int) = (q : Int) + 1 by omega, show (0 : Int) + ((q + 1 + 1 : Nat) : Int) = (q : Int) + 2 by omega, d0, d1, d2, Int.zero_add]
  have hz : σ20 kI_sign t = 0 → qz_ σ20 t = 0 := by
    intro z
    rw [g] at z
    split at z <;> exact absurd z (by decide)
  refine wp_bd (v_I_trim h20 t0 t1 hz) ?_
  rintro υ - ⟨g1, g2, g3, g4⟩
  refine wp_some ⟨⟨g1, by rw [g2]; exact hv, by omega⟩, fun c j q1 q2 q3 => ?_⟩
  rw [g4 c j q2 q3, e20, sg_ne q3, e17, sg_ne q2, e15, sg_nc q1, e12, sg_nc q1, e9, sg_nc q1]
  exact f2 c j q1
theorem g_addSigned {σ : SG} {t a b f v w L : Int} (hσ : II σ) (t0 : 0 ≤ t) (t1 : t < 16) (a0 : 0 ≤ a) (a1 : a < 16) (b0 : 0 ≤ b) (b1 : b < 16) (ta : a ≠ t) (tb : b ≠ t) (hf : f = 1 ∨ f = -1) (ga : CGr σ a v L) (gb : CGr σ b w L) (hL : L ≤ 279) : wp_ (fI_addSigned σ t a b f) (fun τ => II τ ∧ FC CLi [] σ τ ∧ CGr τ t (v + f * w) (L + 1) ∧ CFr t σ τ) := by
  have h1 := ga.2.2
  have h2 := gb.2.2
  refine wp_mono (wp_and (s_I_addSigned (factor_0 := f) hσ ⟨t0, by omega⟩ ⟨a0, by omega⟩ ⟨b0, by omega⟩ (by omega)) (v_I_addSigned hσ t0 t1 a0 a1 b0 b1 ta tb hf (by omega) (by omega) ga.1 gb.1)) ?_
  rintro τ ⟨⟨hI, hF⟩, k1, k2, k3, k4⟩
  exact ⟨hI, hF, ⟨k1, by rw [k2, ga.2.1, gb.2.1], by omega⟩, k4⟩
theorem g_multiply {σ : SG} {t a b v w L M : Int} (hσ : II σ) (t0 : 0 ≤ t) (t1 : t < 16) (a0 : 0 ≤ a) (a1 : a < 16) (b0 : 0 ≤ b) (b1 : b < 16) (ta : a ≠ t) (tb : b ≠ t) (ga : CGr σ a v L) (gb : CGr σ b w M) (hL : L + M ≤ 280) : wp_ (fI_multiply σ t a b) (fun τ => II τ ∧ FC CLi [] σ τ ∧ CGr τ t (v * w) (L + M) ∧ CFr t σ τ) := by
  have h1 := ga.2.2
  have h2 := gb.2.2
  refine wp_mono (wp_and (s_I_multiply hσ ⟨t0, by omega⟩ ⟨a0, by omega⟩ ⟨b0, by omega⟩) (v_I_multiply hσ t0 t1 a0 a1 b0 b1 ta tb (by omega) ga.1 gb.1)) ?_
  rintro τ ⟨⟨hI, hF⟩, k1, k2, k3, k4⟩
  exact ⟨hI, hF, ⟨k1, by rw [k2, ga.2.1, gb.2.1], by omega⟩, k4⟩
/-- the registers of ts alone change -/
def CK (ts : List Int) (σ τ : SG) : Prop := ∀ q v L : Int, 0 ≤ q → q < 16 → (∀ t ∈ ts, q ≠ t) → CGr σ q v L → CGr τ q v L
theorem CK_f {t : Int} {σ τ : SG} (f : CFr t σ τ) (t0 : 0 ≤ t) (t1 : t < 16) : CK [t] σ τ := fun _ _ _ q0 q1 h g => CG_f f t0 t1 q0 q1 (h t List.mem_cons_self) g
theorem CK_tr {ts us : List Int} {σ τ υ : SG} (a : CK ts σ τ) (b : CK us τ υ) : CK (ts ++ us) σ υ := fun q v L q0 q1 h g => b q v L q0 q1 (fun t m => h t (List.mem_append_right _ m)) (a q v L q0 q1 (fun t m => h t (List.mem_append_left _ m)) g)
theorem g_difference {σ : SG} {t x y : Int} (hσ : II σ) (t0 : 2 ≤ t) (t1 : t < 16) : wp_ (fI_difference σ t x y) (fun τ => II τ ∧ FC CLi [] σ τ ∧ CGr τ t (ld_ x - ld_ y) 67 ∧ CK [0, 1, t] σ τ) := by
  have hd : wp_ (fI_difference σ t x y) (fun τ => CGr τ t (ld_ x - ld_ y) 67 ∧ CK [0, 1, t] σ τ) := by
    unfold fI_difference
    refine wp_bd (wp_and (s_I_load (bits_0 := x) hσ (to_0 := 0) (by decide)) (v_I_load hσ (by decide) (by decide))) ?_
    rintro σ2 - ⟨⟨h2, -⟩, g2, f2⟩
    refine wp_bd (wp_and (s_I_load (bits_0 := y) h2 (to_0 := 1) (by decide)) (v_I_load h2 (by decide) (by decide))) ?_
    rintro σ4 - ⟨⟨h4, -⟩, g4, f4⟩
    have k2 := CK_f f2 (by decide) (by decide)
    have k4 := CK_f f4 (by decide) (by decide)
    have g0 := CG_f f4 (by decide) (by decide) (by decide) (by decide) (by decide) g2
    refine wp_bd (g_addSigned (t := t) (a := 0) (b := 1) (f := -1) h4 (by omega) t1 (by decide) (by decide) (by decide) (by decide) (by omega) (by omega) (Or.inr rfl) g0 g4 (by decide)) ?_
    rintro σ6 - ⟨h6, -, g6, f6⟩
    refine wp_some ⟨?_, CK_tr k2 (CK_tr k4 (CK_f f6 (by omega) t1))⟩
    rw [show ld_ x - ld_ y = ld_ x + -1 * ld_ y by omega]
    exact g6
  refine wp_mono (wp_and (s_I_difference hσ ⟨by omega, by omega⟩) hd) ?_
  rintro τ ⟨⟨a, b⟩, c, d⟩
  exact ⟨a, b, c, d⟩
end CVN
