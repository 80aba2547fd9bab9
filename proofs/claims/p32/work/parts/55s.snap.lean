section SNS
abbrev GL : List Nat := [kR_corner, kR_corners, kR_edgeDone, kR_onWay, kR_outArea, kR_outFrom, kR_outMany, kR_outs, kR_way, kR_wayMany]
theorem EH_frm {σ τ : SG} {what : Int} {pe : Int → Int} (f : FR GL σ τ) (hp : NP σ) (ho : HO σ) (hN : ∀ β, NG σ β) (h : EH σ what pe) : NP τ ∧ HO τ ∧ (∀ β, NG τ β) ∧ EH τ what pe := by
  have e1 : nN τ = nN σ := by unfold nN; rw [FR_at f (by decide) 0]
  have e2 : nM τ = nM σ := by unfold nM; rw [FR_at f (by decide) 0]
  have e3 : nX τ = nX σ := by unfold nX; funext w; rw [FR_at f (by decide) _]
  have e4 : nY τ = nY σ := by unfold nY; funext w; rw [FR_at f (by decide) _]
  have e5 : nF τ = nF σ := by unfold nF; funext w; rw [FR_at f (by decide) _]
  have e6 : nT τ = nT σ := by unfold nT; funext w; rw [FR_at f (by decide) _]
  have e7 : ∀ β, nb τ β = nb σ β := fun β => by unfold nb; funext w; rw [FR_at f (by decide) _]
  have el : ∀ w k, lr_ τ what w k = lr_ σ what w k := fun w k => by unfold lr_; rw [e2, e3, e4, e5, e6, e7, e7]
  have er : ∀ w k, rr_ τ what w k = rr_ σ what w k := fun w k => by unfold rr_; rw [e2, e3, e4, e5, e6, e7, e7]
  refine ⟨?_, (HM_fr f (by decide) (by decide) (by decide)).2.mpr ho, fun β => ?_, ?_⟩
  · unfold NP PO at *
    simp only [FR_at f (c := kR_hotX) (by decide), FR_at f (c := kR_hotY) (by decide), FR_at f (c := kR_hots) (by decide), FR_at f (c := kR_pieces) (by decide), FR_at f (c := kR_pieceFrom) (by decide), FR_at f (c := kR_pieceTo) (by decide)]
    exact hp
  · unfold NG; rw [e1, e2, e3, e4, e5, e6, e7]; exact hN β
  · unfold EH at *
    simp only [el, er, e5, FR_at f (c := kR_edges) (by decide), FR_at f (c := kR_edgeFrom) (by decide), FR_at f (c := kR_edgeTo) (by decide), FR_at f (c := kR_pieces) (by decide), FR_at f (c := kR_pieceFrom) (by decide), FR_at f (c := kR_pieceTo) (by decide)]
    exact h
def dn_ (E : Int) (τ : SG) : Nat := ct_ E.toNat (fun e : Nat => nz (τ kR_edgeDone e))
theorem dn_le (E : Int) (τ : SG) : dn_ E τ ≤ E.toNat := ct_m _ _
theorem dn_fr {E : Int} {ms : List Nat} {σ τ : SG} (h : FR ms σ τ) (h1 : ms.contains kR_edgeDone = false) : dn_ E τ = dn_ E σ := by
  unfold dn_
  rw [show τ kR_edgeDone = σ kR_edgeDone from funext (FR_at h h1)]
theorem dn_lt {E e : Int} {τ : SG} (e0 : 0 ≤ e) (e1 : e < E) (h : nz (τ kR_edgeDone e) = false) : dn_ E τ < E.toNat := by
  have := ct_lt (m := E.toNat) (z := e.toNat) (f := fun e : Nat => nz (τ kR_edgeDone e)) (g := fun _ => true) (fun _ _ _ => rfl) (by omega) (by rw [show ((e.toNat : Nat) : Int) = e by omega]; exact h) rfl
  have := ct_m (fun _ => true) E.toNat
  unfold dn_; omega
theorem v_goesRound {σ : SG} {what : Int} {pe : Int → Int} (hσ : II σ) (hp : NP σ) (ho : HO σ) (hN : ∀ β, NG σ β) (h : EH σ what pe) : wp_ (fR_goesRound σ) (fun τ => II τ ∧ FR [kR_corner, kR_corners, kR_edgeDone, kR_onWay, kR_outArea, kR_outFrom, kR_outMany, kR_outs, kR_way, kR_wayMany] σ τ ∧ OC τ ∧ τ kR_outs 0 ≤ 8192 ∧ τ kR_corners 0 ≤ 16384) := by
  unfold fR_goesRound
  have bh := ii_kR_hots hσ 0
  have be := ii_kR_edges hσ 0
  refine wp_wfI hσ b_kR_corners (by decide) (fun σ1 h1 e1 => ?_)
  refine wp_wfI h1 b_kR_outs (by decide) (fun σ2 h2 e2 => ?_)
  have f2 : FR GL σ σ2 := FR_tr (FR_sg e1) (FR_sg e2) (by decide) (by decide)
  have o2 : σ2 kR_outs 0 = 0 := sg_val e2
  have c2 : σ2 kR_corners 0 = 0 := by rw [e2, sg_nc (by decide)]; exact sg_val e1
  have hz : ∀ {υ : SG}, FR GL σ υ → υ kR_hots 0 = σ kR_hots 0 := fun f => FR_at f (by decide) 0
  have ez : ∀ {υ : SG}, FR GL σ υ → υ kR_edges 0 = σ kR_edges 0 := fun f => FR_at f (by decide) 0
  -- nothing is on the way
  refine wp_bd (P := fun s => II s.2 ∧ FR GL σ s.2 ∧ (s.2 kR_outs 0 = 0 ∧ s.2 kR_corners 0 = 0) ∧ ∀ v, 0 ≤ v → v < σ kR_hots 0 → s.2 kR_onWay v = -1) ?_ ?_
  · refine wp_whl (fun s => 0 ≤ s.1 ∧ s.1 ≤ σ kR_hots 0 ∧ II s.2 ∧ FR GL σ s.2 ∧ (s.2 kR_outs 0 = 0 ∧ s.2 kR_corners 0 = 0) ∧ ∀ v, 0 ≤ v → v < s.1 → s.2 kR_onWay v = -1) (fun s => (σ kR_hots 0 - s.1).toNat) ⟨Int.le_refl 0, bh.1, h2, f2, ⟨o2, c2⟩, fun v v0 v1 => by dsimp only at v1; omega⟩ ?_
    rintro ⟨k, τ⟩ ⟨k0, k1, hτ, fτ, ⟨oτ, cτ⟩, wτ⟩
    dsimp only at k0 k1 hτ fτ oτ cτ wτ ⊢
    simp only [hz fτ]
    rw [w32_of (x := k) (by omega) (by omega), w32_of (x := σ kR_hots 0) (by omega) (by omega)]
    refine wp_if (fun g => ?_) (fun g => wp_ir ⟨hτ, fτ, ⟨oτ, cτ⟩, fun v v0 v1 => wτ v v0 (by omega)⟩)
    refine wp_waI hτ b_kR_onWay (by omega) (by omega) (by decide) (fun σ3 h3 e3 => ?_)
    refine wp_il ⟨⟨by dsimp only; omega, by dsimp only; omega, h3, FR_tr fτ (FR_sg e3) (by decide) (by decide), ⟨by dsimp only; rw [e3, sg_nc (by decide)]; exact oτ, by dsimp only; rw [e3, sg_nc (by decide)]; exact cτ⟩, fun v v0 v1 => ?_⟩, by dsimp only; omega⟩
    dsimp only at v1 ⊢
    rw [e3]
    by_cases q : v = k
    · rw [q, sg_at]
    · rw [sg_ni q]; exact wτ v v0 (by omega)
  rintro ⟨k, σ4⟩ - ⟨h4, f4, ⟨o4, c4⟩, w4⟩
  dsimp only at h4 f4 o4 c4 w4 ⊢
  generalize hE : σ kR_edges 0 = E at *
  refine wp_bd (P := fun s => II s.2 ∧ FR GL σ s.2 ∧ OC s.2 ∧ s.2 kR_outs 0 ≤ 8192 ∧ s.2 kR_corners 0 ≤ 16384) ?_ (fun s _ hs => wp_some hs)
  refine wp_whl (fun s => 0 ≤ s.1 ∧ s.1 ≤ E ∧ II s.2 ∧ FR GL σ s.2 ∧ OC s.2 ∧ (∀ v, 0 ≤ v → v < σ kR_hots 0 → s.2 kR_onWay v = -1) ∧ ∃ S : Int, 2 * s.2 kR_outs 0 ≤ S ∧ s.2 kR_corners 0 ≤ S ∧ S ≤ dn_ E s.2) (fun s => (E - s.1).toNat) ⟨Int.le_refl 0, be.1, h4, f4, fun s s0 s1 => by dsimp only at s1; omega, w4, 0, by dsimp only; omega, by dsimp only; omega, by omega⟩ ?_
  rintro ⟨k, τ⟩ ⟨k0, k1, hτ, fτ, oc, wτ, S, s1, s2, s3⟩
  dsimp only at k0 k1 hτ fτ oc wτ s1 s2 s3 ⊢
  have dl := dn_le E τ
  simp only [ez fτ]
  rw [w32_of (x := k) (by omega) (by omega), w32_of (x := E) (by omega) (by omega)]
  refine wp_if (fun g => ?_) (fun g => wp_ir ⟨hτ, fτ, oc, by dsimp only; omega, by dsimp only; omega⟩)
  refine wp_rd k0 (by omega) ?_
  refine wp_if (fun gd => wp_il ⟨⟨by dsimp only; omega, by dsimp only; omega, hτ, fτ, oc, wτ, S, s1, s2, s3⟩, by dsimp only; omega⟩) (fun gd => ?_)
  have gd : nz (τ kR_edgeDone k) = false := Bool.eq_false_iff.mpr gd
  refine wp_wfI hτ b_kR_wayMany (by decide) (fun σ5 h5 e5 => ?_)
  have f5 : FR GL σ σ5 := FR_tr fτ (FR_sg e5) (by decide) (by decide)
  have m5 : σ5 kR_wayMany 0 = 0 := sg_val e5
  have q5 : ∀ v, σ5 kR_onWay v = τ kR_onWay v := fun v => by rw [e5, sg_nc (by decide)]
  have u5 : σ5 kR_outs 0 = τ kR_outs 0 := by rw [e5, sg_nc (by decide)]
  have v5 : σ5 kR_corners 0 = τ kR_corners 0 := by rw [e5, sg_nc (by decide)]
  have oc5 : OC σ5 := by
    unfold OC
    rw [u5, v5]
    intro s s0 s1
    rw [e5, sg_nc (by decide), sg_nc (by decide), sg_nc (by decide)]
    exact oc s s0 s1
  have d5 : dn_ E σ5 = dn_ E τ := dn_fr (FR_sg e5) (by decide)
  have w5 : WYs σ5 := by
    refine ⟨fun v v0 v1 => Or.inl ?_, fun i i0 i1 => by omega, ?_⟩
    · rw [q5]; exact wτ v v0 (by rw [hz f5] at v1; exact v1)
    · rw [m5]
      have : ct_ (σ5 kR_hots 0).toNat (fun v : Nat => decide (σ5 kR_onWay v ≠ -1)) = ct_ (σ5 kR_hots 0).toNat (fun _ => false) := ct_cg (fun j hj => by
        rw [q5, wτ j (by omega) (by rw [hz f5] at hj; omega)]; decide)
      rw [this]
      have zc : ∀ m : Nat, ct_ m (fun _ => false) = 0 := by
        intro m
        induction m with
        | zero => rfl
        | succ m ih => unfold ct_; rw [ih]; rfl
      exact zc _
  obtain ⟨hp5, ho5, hN5, hE5⟩ := EH_frm f5 hp ho hN h
  have ek := EH_ends hp5 hE5 k0 (by rw [ez f5]; exact g)
  refine wp_rd k0 (by omega) ?_
  have hz5 := hz f5
  have gdl := dn_lt (E := E) k0 g gd
  refine wp_bd (v_comes (S := S) (D := dn_ E σ5) h5 w5 oc5 ho5 ek.2.2.2.1.1 ek.2.2.2.1.2 (fun q => by
    rw [q5, wτ _ ek.2.2.2.1.1 (by rw [← hz5]; exact ek.2.2.2.1.2)] at q; exact absurd rfl q) (by unfold ACs; omega) (by omega)) ?_
  rintro σ6 - ⟨h6, fc6, w6, oc6, ac6, m6, l6⟩
  have f6 : FR GL σ σ6 := FR_tr f5 fc6 (by decide) (by decide)
  have d6 : dn_ E σ6 = dn_ E σ5 := dn_fr fc6 (by decide)
  rw [← d6] at ac6
  have ef6 : σ6 kR_edgeFrom k = σ5 kR_edgeFrom k := FR_at fc6 (by decide) k
  rw [← ef6] at l6
  have ed6 : nz (σ6 kR_edgeDone k) = false := by rw [FR_at fc6 (by decide) k, e5, sg_nc (by decide)]; exact gd
  -- one way round
  refine wp_bd (P := fun s => II s.2 ∧ FR GL σ s.2 ∧ WYs s.2 ∧ OC s.2 ∧ (∃ S, ACs s.2 S (dn_ E s.2 + 1)) ∧ 1 ≤ s.2 kR_wayMany 0) ?_ ?_
  · refine wp_whl (fun s => (0 ≤ s.1 ∧ s.1 < E) ∧ II s.2 ∧ FR GL σ s.2 ∧ WYs s.2 ∧ OC s.2 ∧ (∃ S, ACs s.2 S (dn_ E s.2 + 1)) ∧ 1 ≤ s.2 kR_wayMany 0 ∧ s.2 kR_way (s.2 kR_wayMany 0 - 1) = s.2 kR_edgeFrom s.1 ∧ nz (s.2 kR_edgeDone s.1) = false) (fun s => E.toNat - dn_ E s.2) ⟨⟨k0, g⟩, h6, f6, w6, oc6, ac6, m6, l6, ed6⟩ ?_
    rintro ⟨e, υ⟩ ⟨⟨e0, e1'⟩, hυ, fυ, wυ, ocυ, ⟨S1, acυ⟩, mυ, lυ, edυ⟩
    dsimp only at e0 e1' hυ fυ wυ ocυ acυ mυ lυ edυ ⊢
    have dlt := dn_lt (E := E) e0 e1' edυ
    rw [w32_of (x := e) (by omega) (by omega)]
    refine wp_waI hυ b_kR_edgeDone (by omega) (by omega) (bz_bd _) (fun σ7 h7 e7 => ?_)
    have f7 : FR GL σ σ7 := FR_tr fυ (FR_sg e7) (by decide) (by decide)
    have F7 : FR [kR_edgeDone] υ σ7 := FR_sg e7
    have d7 : dn_ E σ7 = dn_ E υ + 1 := by
      unfold dn_
      refine ct_up (z := e.toNat) (by omega) (fun j _ hj => ?_) ?_ ?_
      · rw [e7, sg_ni (by omega)]
      · rw [show ((e.toNat : Nat) : Int) = e by omega, e7, sg_at, nz_bz]
      · rw [show ((e.toNat : Nat) : Int) = e by omega]; exact edυ
    have w7 : WYs σ7 := by
      unfold WYs at *
      simp only [FR_at F7 (c := kR_hots) (by decide), FR_at F7 (c := kR_onWay) (by decide), FR_at F7 (c := kR_way) (by decide), FR_at F7 (c := kR_wayMany) (by decide)]
      exact wυ
    have oc7 : OC σ7 := by
      unfold OC at *
      simp only [FR_at F7 (c := kR_outs) (by decide), FR_at F7 (c := kR_outFrom) (by decide), FR_at F7 (c := kR_outMany) (by decide), FR_at F7 (c := kR_outArea) (by decide), FR_at F7 (c := kR_corners) (by decide)]
      exact ocυ
    have ac7 : ACs σ7 S1 (dn_ E υ + 1) := by
      unfold ACs at *
      rw [FR_at F7 (by decide) 0, FR_at F7 (by decide) 0, FR_at F7 (by decide) 0]
      exact acυ
    obtain ⟨hp7, ho7, hN7, hE7⟩ := EH_frm f7 hp ho hN h
    have ek7 := EH_ends hp7 hE7 e0 (by rw [ez f7]; exact e1')
    have l7 : σ7 kR_way (σ7 kR_wayMany 0 - 1) = σ7 kR_edgeFrom e := by
      rw [FR_at F7 (by decide), FR_at F7 (by decide), FR_at F7 (by decide)]; exact lυ
    refine wp_rd e0 (by omega) ?_
    refine wp_bd (v_comes (S := S1) (D := dn_ E υ + 1) h7 w7 oc7 ho7 ek7.2.2.2.2.1.1 ek7.2.2.2.2.1.2 (fun q => by
      rcases w7.1 _ ek7.2.2.2.2.1.1 ek7.2.2.2.2.1.2 with r | ⟨r1, r2, r3⟩
      · exact absurd r q
      · by_cases z : σ7 kR_onWay (σ7 kR_edgeTo e) = σ7 kR_wayMany 0 - 1
        · rw [z, l7] at r3
          exact absurd r3 ek7.2.2.2.2.2
        · omega) ac7 (by omega)) ?_
    rintro σ8 - ⟨h8, fc8, w8, oc8, ⟨S8, ac8⟩, m8, l8⟩
    have f8 : FR GL σ σ8 := FR_tr f7 fc8 (by decide) (by decide)
    have d8 : dn_ E σ8 = dn_ E υ + 1 := by rw [dn_fr fc8 (by decide)]; exact d7
    obtain ⟨hp8, ho8, hN8, hE8⟩ := EH_frm f8 hp ho hN h
    refine wp_bd (v_edgeBehind h8 hp8 ho8 hN8 hE8 e0 (by rw [ez f8]; exact e1')) ?_
    rintro n - ⟨n0, n1, n2, n3⟩
    rw [ez f8] at n1
    have ac8' : ACs σ8 S8 (dn_ E σ8 + 1) := by rw [d8]; exact_mod_cast ac8
    rw [w32_of (x := n) (by omega) (by omega)]
    have stop : II σ8 ∧ FR GL σ σ8 ∧ WYs σ8 ∧ OC σ8 ∧ (∃ S, ACs σ8 S (dn_ E σ8 + 1)) ∧ 1 ≤ σ8 kR_wayMany 0 := ⟨h8, f8, w8, oc8, ⟨S8, ac8'⟩, m8⟩
    refine wp_if (fun gn => ?_) (fun gn => wp_ir stop)
    refine wp_rd n0 (by omega) ?_
    refine wp_if (fun gz => wp_ir stop) (fun gz => wp_il ⟨⟨⟨n0, n1⟩, h8, f8, w8, oc8, ⟨S8, ac8'⟩, m8, ?_, Bool.eq_false_iff.mpr gz⟩, by dsimp only; omega⟩)
    dsimp only
    rw [l8, n3, FR_at fc8 (by decide)]
  rintro ⟨e, σ9⟩ - ⟨h9, f9, w9, oc9, ⟨S9, ac9⟩, m9⟩
  dsimp only at h9 f9 w9 oc9 ac9 m9 ⊢
  have b9 := ii_kR_wayMany h9 0
  -- off the way again
  refine wp_bd (P := fun s => II s.2 ∧ FR [kR_onWay] σ9 s.2 ∧ ∀ v, 0 ≤ v → v < σ kR_hots 0 → s.2 kR_onWay v = -1) ?_ ?_
  · refine wp_whl (fun s => 0 ≤ s.1 ∧ s.1 ≤ σ9 kR_wayMany 0 ∧ II s.2 ∧ FR [kR_onWay] σ9 s.2 ∧ ∀ v, 0 ≤ v → v < σ kR_hots 0 → (s.2 kR_onWay v = -1 ∨ (s.1 ≤ s.2 kR_onWay v ∧ s.2 kR_onWay v < σ9 kR_wayMany 0 ∧ σ9 kR_way (s.2 kR_onWay v) = v))) (fun s => (σ9 kR_wayMany 0 - s.1).toNat) ⟨Int.le_refl 0, by dsimp only; omega, h9, FR_refl _ _, fun v v0 v1 => w9.1 v v0 (by rw [hz f9]; exact v1)⟩ ?_
    rintro ⟨i, υ⟩ ⟨i0, i1, hυ, fυ, wυ⟩
    dsimp only at i0 i1 hυ fυ wυ ⊢
    have x1 : υ kR_wayMany 0 = σ9 kR_wayMany 0 := FR_at fυ (by decide) 0
    have x2 : ∀ j, υ kR_way j = σ9 kR_way j := FR_at fυ (by decide)
    simp only [x1]
    rw [w32_of (x := i) (by omega) (by omega), w32_of (x := σ9 kR_wayMany 0) (by omega) (by omega)]
    refine wp_if (fun gi => ?_) (fun gi => wp_ir ⟨hυ, fυ, fun v v0 v1 => ?_⟩)
    · refine wp_rd i0 (by omega) ?_
      rw [x2]
      have wi := (w9.2.1 i i0 gi)
      have hz9 := hz f9
      rw [w32_of (x := σ9 kR_way i) (by omega) (by omega)]
      refine wp_waI hυ b_kR_onWay (by omega) (by omega) (by decide) (fun σ10 h10 e10 => ?_)
      refine wp_il ⟨⟨by dsimp only; omega, by dsimp only; omega, h10, FR_tr fυ (FR_sg e10) (by decide) (by decide), fun v v0 v1 => ?_⟩, by dsimp only; omega⟩
      dsimp only
      rw [e10]
      by_cases q : v = σ9 kR_way i
      · rw [q, sg_at]; exact Or.inl rfl
      · rw [sg_ni q]
        rcases wυ v v0 v1 with r | ⟨r1, r2, r3⟩
        · exact Or.inl r
        · refine Or.inr ⟨?_, r2, r3⟩
          by_cases z : υ kR_onWay v = i
          · rw [z] at r3; exact absurd r3.symm q
          · omega
    · dsimp only
      rcases wυ v v0 v1 with r | ⟨r1, r2, r3⟩
      · exact r
      · omega
  rintro ⟨i, σ11⟩ - ⟨h11, f11, w11⟩
  dsimp only at h11 f11 w11 ⊢
  refine wp_il ⟨⟨by dsimp only; omega, by dsimp only; omega, h11, FR_tr f9 f11 (by decide) (by decide), ?_, w11, S9, ?_⟩, by dsimp only; omega⟩
  · unfold OC at *
    simp only [FR_at f11 (c := kR_outs) (by decide), FR_at f11 (c := kR_outFrom) (by decide), FR_at f11 (c := kR_outMany) (by decide), FR_at f11 (c := kR_outArea) (by decide), FR_at f11 (c := kR_corners) (by decide)]
    exact oc9
  · dsimp only
    rw [FR_at f11 (by decide) 0, FR_at f11 (by decide) 0, dn_fr f11 (by decide)]
    unfold ACs at ac9
    omega
end SNS
