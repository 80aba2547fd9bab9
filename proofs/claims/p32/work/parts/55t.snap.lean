section SNT
abbrev HLs : List Nat := [kR_hotX, kR_hotY, kR_hots, kR_isInner, kR_meetX, kR_meetY]
theorem HSo_self {σ τ : SG} (f : FR HLs σ τ) (h : HSo σ τ) : HSo τ τ := by
  unfold HSo PC CX sd_ nu_ de_ TS at *
  simp only [FR_at f (c := kR_sx) (by decide), FR_at f (c := kR_sy) (by decide), FR_at f (c := kR_ex) (by decide), FR_at f (c := kR_ey) (by decide), FR_at f (c := kR_segments) (by decide)]
  exact h
/-- the rings of the segments are closed: each place begins and ends evenly many, of each shape -/
def CLs (σ : SG) : Prop := ∀ (x y : Int) (β : Bool), xs_ (σ kR_segments 0).toNat (fun j : Nat => bq_ β (q_isl 1 (σ kR_shapeOf j)) && Bool.xor (decide (x = σ kR_sx j ∧ y = σ kR_sy j)) (decide (x = σ kR_ex j ∧ y = σ kR_ey j))) = false
/-- behind heats and chains the pieces are a net, the hot places near and sorted -/
theorem lays_net {σ τ υ : SG} (hcl : CLs σ) (f1 : FR HLs σ τ) (h1 : HSo σ τ) (hυ : II υ) (f2 : FR ZL τ υ) (q : PQ τ υ (τ kR_segments 0)) : NP υ ∧ HO υ ∧ ∀ β, NG υ β := by
  have hs := HSo_self f1 h1
  have hx : ∀ i, υ kR_hotX i = τ kR_hotX i := FR_at f2 (by decide)
  have hy : ∀ i, υ kR_hotY i = τ kR_hotY i := FR_at f2 (by decide)
  have hh : υ kR_hots 0 = τ kR_hots 0 := FR_at f2 (by decide) 0
  have net := fun β => net_of (β := β) hs q (ii_kR_pieces hυ 0).1 (fun g g0 g1 => by
    have := hcl (τ kR_hotX g) (τ kR_hotY g) β
    unfold st_ sn_
    simp only [FR_at f1 (c := kR_sx) (by decide), FR_at f1 (c := kR_sy) (by decide), FR_at f1 (c := kR_ex) (by decide), FR_at f1 (c := kR_ey) (by decide), FR_at f1 (c := kR_segments) (by decide), FR_at f1 (c := kR_shapeOf) (by decide)]
    exact this)
  refine ⟨⟨fun g g0 g1 => ?_, ?_⟩, (HO_zl f2).1.mpr hs.1.1, fun β => ?_⟩
  · rw [hx, hy]
    rw [hh] at g1
    exact hs.1.2 _ _ ⟨g, g0, g1, rfl, rfl⟩
  · rw [hh]; exact q.1.1
  · unfold NG nN nM nX nY nF nT nb
    simp only [hx, hy, hh]
    exact net β
abbrev LOv : List Nat := [kR_hotX, kR_hotY, kR_hots, kR_isInner, kR_meetX, kR_meetY, kR_chain, kR_chainDen, kR_chainMany, kR_chainNum, kR_chainOpen, kR_chained, kR_highDen, kR_highNum, kR_highOpen, kR_lowDen, kR_lowNum, kR_lowOpen, kR_pieceBits, kR_pieceFrom, kR_pieceTo, kR_pieces, kR_edgeDone, kR_edgeFrom, kR_edgeTo, kR_edges, kR_corner, kR_corners, kR_onWay, kR_outArea, kR_outFrom, kR_outMany, kR_outs, kR_way, kR_wayMany]
/-- an overlay up to the rings: each step answers; what is left is to tell them -/
theorem v_laysOver {σ : SG} {what : Int} {Q : Bool × SG → Prop} (hσ : II σ) (hn : SN σ) (hcl : CLs σ) (hF : ∀ τ, II τ → FR LOv σ τ → Q (false, τ)) (hk : ∀ τ, II τ → FR LOv σ τ → NP τ → HO τ → OC τ → τ kR_outs 0 ≤ 8192 → τ kR_corners 0 ≤ 16384 → wp_ (bd_ (fR_giveHoles τ) fun σ_28 => bd_ (fR_tellResult σ_28) fun (x_31, σ_30) => some (x_31, σ_30)) Q) : wp_ (fR_laysOver σ what) Q := by
  unfold fR_laysOver
  have bs := ii_kR_segments hσ 0
  rw [w32_of (x := σ kR_segments 0) (by omega) (by omega)]
  refine wp_if (fun _ => wp_some (hF _ hσ (FR_refl _ _))) (fun g0 => ?_)
  have hs : σ kR_segments 0 ≤ 4199 := by omega
  refine wp_bd (v_heats hσ hn hs) ?_
  rintro ⟨b, τ⟩ - ⟨hτ, fτ, ht⟩
  dsimp only at hτ fτ ht ⊢
  refine wp_if (fun g => ?_) (fun _ => wp_some (hF _ hτ (FR_le fτ (by decide))))
  have hs1 := ht g
  have sgm : τ kR_segments 0 = σ kR_segments 0 := FR_at fτ (by decide) 0
  have hnτ : SN τ := by
    unfold SN at *
    simp only [FR_at fτ (c := kR_sx) (by decide), FR_at fτ (c := kR_sy) (by decide), FR_at fτ (c := kR_ex) (by decide), FR_at fτ (c := kR_ey) (by decide), FR_at fτ (c := kR_segments) (by decide)]
    exact hn
  refine wp_bd (v_chains hτ hnτ (by rw [sgm]; exact hs) (HSo_self fτ hs1)) ?_
  rintro ⟨c, υ⟩ - ⟨hυ, fυ, hq⟩
  dsimp only at hυ fυ hq ⊢
  refine wp_if (fun g2 => ?_) (fun _ => wp_some (hF _ hυ (FR_tr fτ fυ (by decide) (by decide))))
  obtain ⟨np, ho, ng⟩ := lays_net hcl fτ hs1 hυ fυ (hq g2)
  refine wp_bd (v_boundary hυ np ho ng) ?_
  rintro ω - ⟨hω, fω, pe, eg⟩
  have eh := EH_of eg fω
  have np2 := NP_fr fω np
  have ho2 : HO ω := (HM_fr fω (by decide) (by decide) (by decide)).2.mpr ho
  have ng2 : ∀ β, NG ω β := fun β => by
    obtain ⟨e1, e2, e3, e4, e5, e6, e7⟩ := net_fr fω
    unfold NG; rw [e1, e2, e3, e4, e5, e6, e7]; exact ng β
  refine wp_bd (v_goesRound hω np2 ho2 ng2 eh) ?_
  rintro ψ - ⟨hψ, fψ, oc, o1, o2⟩
  obtain ⟨np3, ho3, -, -⟩ := EH_frm fψ np2 ho2 ng2 eh
  exact hk ψ hψ (FR_tr (FR_tr (FR_tr fτ fυ (by decide) (by decide) : FR LOv σ υ) fω (by decide) (by decide) : FR LOv σ ω) fψ (by decide) (by decide)) np3 ho3 oc o1 o2
end SNT
