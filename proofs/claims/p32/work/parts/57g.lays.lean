theorem s_R_laysOver {σ : SG} {what_0 : Int} (hσ : II σ) (w0 : SN σ) (w1 : CLs σ) : wp_ (fR_laysOver σ what_0) (fun zz_ => II zz_.2 ∧ FR [kR_hotX, kR_hotY, kR_hots, kR_isInner, kR_meetX, kR_meetY, kR_chain, kR_chainDen, kR_chainMany, kR_chainNum, kR_chainOpen, kR_chained, kR_highDen, kR_highNum, kR_highOpen, kR_lowDen, kR_lowNum, kR_lowOpen, kR_pieceBits, kR_pieceFrom, kR_pieceTo, kR_pieces, kR_edgeDone, kR_edgeFrom, kR_edgeTo, kR_edges, kR_corner, kR_corners, kR_onWay, kR_outArea, kR_outFrom, kR_outMany, kR_outs, kR_outShell, kR_plan, kR_planMany, kR_pointMany, kR_xs, kR_ys, kR_way, kR_wayMany] σ zz_.2 ∧ NF σ zz_.2 ∧ ((zz_.1 = true) → SHn zz_.2)) := by
  refine v_laysOver hσ w0 w1 (fun τ hτ f => ⟨hτ, FR_le f (by decide), NF_of f (by decide), fun h => nomatch h⟩) (fun τ hτ f np ho oc o1 o2 => ?_)
  refine wp_bdk (wp_mono (v_giveHoles hτ oc o1 o2) (fun υ hυ => ?_))
  obtain ⟨hυ, fυ⟩ := hυ
  refine wp_bdk (wp_mono (v_tellResult hυ (OC_f fυ (by decide) oc) (by rw [FR_at fυ (by decide)]; exact o2) (by rw [FR_at fυ (by decide)]; exact o1)) (fun z hz => ?_))
  obtain ⟨hz, fz, nz, sz⟩ := hz
  obtain ⟨a, ω⟩ := z
  exact wp_some ⟨hz, FR_tr (FR_tr f fυ (by decide) (by decide) : FR (kR_outShell :: LOv) σ υ) fz (by decide) (by decide), NF_tr (NF_fr (NF_of f (by decide)) fυ (by decide)) nz, sz⟩
theorem NRs_f {σ τ : SG} {ms : List Nat} {s : Int} (f : FR ms σ τ) (h : dj ms [kR_xs, kR_ys, kR_pointMany] = true) (j : NRs σ s) : NRs τ s := by
  intro i a b
  rw [FR_dj f h (c := kR_pointMany) (by decide)] at b
  rw [FR_dj f h (c := kR_xs) (by decide), FR_dj f h (c := kR_ys) (by decide)]
  exact j i a b
theorem XSg_f {σ τ : SG} {ms : List Nat} (f : FR ms σ τ) (h : dj ms [kR_segments, kR_shapeOf, kR_sx, kR_sy, kR_ex, kR_ey] = true) (x y : Int) (β : Bool) : XSg τ x y β = XSg σ x y β := by
  unfold XSg
  rw [FR_dj f h (c := kR_segments) (by decide), FR_dj f h (c := kR_shapeOf) (by decide), FR_dj f h (c := kR_sx) (by decide), FR_dj f h (c := kR_sy) (by decide), FR_dj f h (c := kR_ex) (by decide), FR_dj f h (c := kR_ey) (by decide)]
theorem CLs_f {σ τ : SG} {ms : List Nat} (f : FR ms σ τ) (h : dj ms [kR_segments, kR_shapeOf, kR_sx, kR_sy, kR_ex, kR_ey] = true) (j : CLs σ) : CLs τ := fun x y β => (XSg_f f h x y β).trans (j x y β)
theorem SN_f {σ τ : SG} {ms : List Nat} (f : FR ms σ τ) (h : dj ms [kR_segments, kR_sx, kR_sy, kR_ex, kR_ey] = true) (j : SN σ) : SN τ := by
  intro i a b
  rw [FR_dj f h (c := kR_segments) (by decide)] at b
  rw [FR_dj f h (c := kR_sx) (by decide), FR_dj f h (c := kR_sy) (by decide), FR_dj f h (c := kR_ex) (by decide), FR_dj f h (c := kR_ey) (by decide)]
  exact j i a b
