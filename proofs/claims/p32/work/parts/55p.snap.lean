section SNP
theorem lr_sw {τ : SG} {what : Int} {k : Nat} (hN : ∀ β, NG τ β) (hk : k < nM τ) (ne : nF τ k ≠ nT τ k) : lr_ τ what (nT τ k) k = rr_ τ what (nF τ k) k ∧ rr_ τ what (nT τ k) k = lr_ τ what (nF τ k) k := by
  have sw := fun β => side_sw (m := nM τ) (b := nb τ β) ne ((hN β).2.1 _ hk)
  unfold lr_ rr_
  rw [(sw false).1, (sw true).1, (sw false).2, (sw true).2]
  exact ⟨rfl, rfl⟩
/-- an edge seen from where it goes to -/
theorem EH_to {τ : SG} {what : Int} {pe : Int → Int} (hp : NP τ) (hN : ∀ β, NG τ β) (h : EH τ what pe) {k : Int} (k0 : 0 ≤ k) (k1 : k < τ kR_edges 0) : lr_ τ what (τ kR_edgeTo k).toNat (pe k).toNat = false ∧ rr_ τ what (τ kR_edgeTo k).toNat (pe k).toNat = true := by
  obtain ⟨hM, ⟨f, g⟩, ne, b1, b2, b3⟩ := EH_ends hp h k0 k1
  obtain ⟨-, mt, l, r⟩ := h.2.1 k k0 k1
  obtain ⟨s1, s2⟩ := lr_sw (what := what) hN hM ne
  rcases mt with ⟨m1, m2⟩ | ⟨m1, m2⟩
  · rw [show (τ kR_edgeFrom k).toNat = nF τ (pe k).toNat by omega] at l r
    rw [show (τ kR_edgeTo k).toNat = nT τ (pe k).toNat by omega, s1, s2]
    exact ⟨r, l⟩
  · rw [show (τ kR_edgeFrom k).toNat = nT τ (pe k).toNat by omega] at l r
    rw [show (τ kR_edgeTo k).toNat = nF τ (pe k).toNat by omega, ← s1, ← s2]
    exact ⟨r, l⟩
theorem lr_sl {τ : SG} {what : Int} {w k : Nat} (hN : ∀ β, NG τ β) (hw : w < nN τ) (hk : k < nM τ) (ik : ic_ (nF τ) (nT τ) w k = true) : lr_ τ what w k = sl_ (nM τ) (ic_ (nF τ) (nT τ) w) (af_ (nX τ) (nY τ) (nF τ) (nT τ) w) (nb τ false) (nb τ true) (kk_ (nM τ) (nX τ) (nY τ) (nF τ) (nT τ) (nb τ false) w) (kk_ (nM τ) (nX τ) (nY τ) (nF τ) (nT τ) (nb τ true) w) (rs_ (w32 what)) k ∧ rr_ τ what w k = sr_ (nM τ) (ic_ (nF τ) (nT τ) w) (af_ (nX τ) (nY τ) (nF τ) (nT τ) w) (nb τ false) (nb τ true) (kk_ (nM τ) (nX τ) (nY τ) (nF τ) (nT τ) (nb τ false) w) (kk_ (nM τ) (nX τ) (nY τ) (nF τ) (nT τ) (nb τ true) w) (rs_ (w32 what)) k := by
  have nt := fun β => net_rt (hN β) hw hk ik
  unfold lr_ rr_ sl_ sr_
  rw [(nt false).1, (nt false).2, (nt true).1, (nt true).2]
  exact ⟨rfl, rfl⟩
theorem v_edgeBehind {τ : SG} {what e : Int} {pe : Int → Int} (hτ : II τ) (hp : NP τ) (ho : HO τ) (hN : ∀ β, NG τ β) (h : EH τ what pe) (e0 : 0 ≤ e) (e1 : e < τ kR_edges 0) : wp_ (fR_edgeBehind τ e) (fun v => 0 ≤ v ∧ v < τ kR_edges 0 ∧ v ≠ e ∧ τ kR_edgeFrom v = τ kR_edgeTo e) := by
  unfold fR_edgeBehind
  have be := ii_kR_edges hτ 0
  have bh := ii_kR_hots hτ 0
  obtain ⟨hM, ⟨f, g⟩, ne, b1, b2, b3⟩ := EH_ends hp h e0 e1
  generalize hW : τ kR_edgeTo e = W at *
  have ie : IC τ W e := Or.inr hW
  have hw : W.toNat < nN τ := by unfold nN; omega
  have so := net_so (hN false) W.toNat
  have oe : oE τ W e = τ kR_edgeFrom e := by unfold oE; rw [if_neg b3]
  have icE := (EH_dir hp h e0 e1 ie).1
  have pn : ∀ j k, 0 ≤ j → j < τ kR_edges 0 → 0 ≤ k → k < τ kR_edges 0 → j ≠ k → (pe j).toNat ≠ (pe k).toNat := by
    intro j k j0 j1 k0 k1 jk
    have a := (h.2.1 j j0 j1).1
    have b := (h.2.1 k k0 k1).1
    rcases Int.lt_trichotomy j k with c | c | c
    · have := h.2.2.1 j k j0 c k1; omega
    · exact absurd c jk
    · have := h.2.2.1 k j k0 c j1; omega
  -- round the place
  have to := EH_to hp hN h e0 e1
  rw [hW] at to
  have ls := lr_sl (what := what) hN hw hM icE
  obtain ⟨cy1, cy2⟩ := cy_go (b := nb τ false) (c := nb τ true) (K := kk_ (nM τ) (nX τ) (nY τ) (nF τ) (nT τ) (nb τ false) W.toNat) (L := kk_ (nM τ) (nX τ) (nY τ) (nF τ) (nT τ) (nb τ true) W.toNat) (res := rs_ (w32 what)) so (net_ev (hN false) hw) (net_ev (hN true) hw) hM icE (by rw [← ls.2]; exact to.2) (by rw [← ls.1]; exact to.1)
  -- a piece of the boundary there is an edge
  have isE : ∀ k, k < nM τ → ic_ (nF τ) (nT τ) W.toNat k = true → lr_ τ what W.toNat k ≠ rr_ τ what W.toNat k → ∃ j, 0 ≤ j ∧ j < τ kR_edges 0 ∧ (pe j).toNat = k ∧ IC τ W j := by
    intro k hk ik hd
    have hnt : nF τ k ≠ nT τ k := by
      have := hp.2.1 k (by omega) (by unfold nM at hk; omega)
      unfold nF nT; omega
    have sw := lr_sw (what := what) hN hk hnt
    have hF : lr_ τ what (nF τ k) k ≠ rr_ τ what (nF τ k) k := by
      unfold ic_ at ik
      rw [Bool.or_eq_true, beq_iff_eq, beq_iff_eq] at ik
      rcases ik with q | q
      · rw [q]; exact hd
      · rw [← q, sw.1, sw.2] at hd; exact fun z => hd z.symm
    obtain ⟨j, j0, j1, j2⟩ := h.2.2.2 k (by omega) (by unfold nM at hk; omega) (by rw [Int.toNat_natCast]; exact hF)
    refine ⟨j, j0, j1, by omega, ?_⟩
    obtain ⟨-, ⟨f', g'⟩, -⟩ := EH_ends hp h j0 j1
    obtain ⟨-, mt, -, -⟩ := h.2.1 j j0 j1
    rw [show (pe j).toNat = k by omega] at f' g'
    unfold ic_ at ik
    rw [Bool.or_eq_true, beq_iff_eq, beq_iff_eq] at ik
    unfold IC
    omega
  rw [w32_of (x := e) (by omega) (by omega)]
  refine wp_rd e0 (by omega) (wp_rd e0 (by omega) ?_)
  rw [hW, w32_of (x := W) (by omega) (by omega), w32_of (x := τ kR_edgeFrom e) (by omega) (by omega)]
  refine wp_rd (by omega) (by omega) (wp_rd (by omega) (by omega) (wp_rd e0 (by omega) ?_))
  rw [w32_of (x := τ kR_edgeFrom e) (by omega) (by omega)]
  refine wp_rd (by omega) (by omega) (wp_rd (by omega) (by omega) ?_)
  refine wp_bd (P := fun s => 0 ≤ s.1 ∧ s.1 < τ kR_edges 0 ∧ s.1 ≠ e ∧ τ kR_edgeFrom s.1 = W) ?_ (fun s _ hs => wp_some hs)
  refine wp_whl (fun s => (0 ≤ s.2.2.2 ∧ s.2.2.2 ≤ τ kR_edges 0) ∧ ((s.1 = -1 ∧ ∀ j, 0 ≤ j → j < s.2.2.2 → j ≠ e → ¬ IC τ W j) ∨ (0 ≤ s.1 ∧ s.1 < s.2.2.2 ∧ s.1 ≠ e ∧ IC τ W s.1 ∧ s.2.1 = vX τ W s.1 ∧ s.2.2.1 = vY τ W s.1 ∧ ∀ j, 0 ≤ j → j < s.2.2.2 → j ≠ e → IC τ W j → j ≠ s.1 → rd1_ (af_ (nX τ) (nY τ) (nF τ) (nT τ) W.toNat) (pe e).toNat (pe j).toNat (pe s.1).toNat = false))) (fun s => (τ kR_edges 0 - s.2.2.2).toNat) ⟨⟨Int.le_refl 0, be.1⟩, Or.inl ⟨rfl, fun j j0 j1 => by dsimp only at j1; omega⟩⟩ ?_
  rintro ⟨best, vx, vy, k⟩ ⟨⟨k0, k1⟩, inv⟩
  dsimp only at k0 k1 inv ⊢
  rw [w32_of (x := k) (by omega) (by omega), w32_of (x := τ kR_edges 0) (by omega) (by omega)]
  refine wp_if (fun gk => ?_) (fun gk => wp_ir ?_)
  · obtain ⟨hMk, -, -, c1, c2, c3⟩ := EH_ends hp h k0 gk
    -- k is passed over
    have pass : (k = e ∨ ¬ IC τ W k) → (((0 ≤ k + 1 ∧ k + 1 ≤ τ kR_edges 0) ∧ ((best = -1 ∧ ∀ j, 0 ≤ j → j < k + 1 → j ≠ e → ¬ IC τ W j) ∨ (0 ≤ best ∧ best < k + 1 ∧ best ≠ e ∧ IC τ W best ∧ vx = vX τ W best ∧ vy = vY τ W best ∧ ∀ j, 0 ≤ j → j < k + 1 → j ≠ e → IC τ W j → j ≠ best → rd1_ (af_ (nX τ) (nY τ) (nF τ) (nT τ) W.toNat) (pe e).toNat (pe j).toNat (pe best).toNat = false))) ∧ (τ kR_edges 0 - (k + 1)).toNat < (τ kR_edges 0 - k).toNat) := by
      intro hk
      refine ⟨⟨by omega, ?_⟩, by omega⟩
      rcases inv with ⟨i1, i2⟩ | ⟨i1, i2, i3, i4, i5, i6, i7⟩
      · refine Or.inl ⟨i1, fun j j0 j1 je => ?_⟩
        by_cases c : j = k
        · rw [c] at je ⊢; rcases hk with q | q
          · exact absurd q je
          · exact q
        · exact i2 j j0 (by omega) je
      · refine Or.inr ⟨i1, by omega, i3, i4, i5, i6, fun j j0 j1 je ij jb => ?_⟩
        by_cases c : j = k
        · rw [c] at je ij; rcases hk with q | q
          · exact absurd q je
          · exact absurd ij q
        · exact i7 j j0 (by omega) je ij jb
    refine wp_bd (P := fun b => b = true ↔ (k = e ∨ ¬ IC τ W k)) ?_ ?_
    · refine wp_if (fun c => wp_some ⟨fun _ => Or.inl c, fun _ => rfl⟩) (fun c => ?_)
      refine wp_rd k0 (by omega) ?_
      rw [w32_of (x := τ kR_edgeFrom k) (by omega) (by omega)]
      unfold IC
      refine wp_if (fun d => ?_) (fun d => wp_some ⟨fun q => (by cases q), fun q => by omega⟩)
      refine wp_rd k0 (by omega) ?_
      rw [w32_of (x := τ kR_edgeTo k) (by omega) (by omega)]
      exact wp_if (fun d2 => wp_some ⟨fun _ => by omega, fun _ => rfl⟩) (fun d2 => wp_some ⟨fun q => (by cases q), fun q => by omega⟩)
    rintro bb - hbb
    refine wp_if (fun gb => wp_il (pass (hbb.mp gb))) (fun gb => ?_)
    have gn : ¬ (k = e ∨ ¬ IC τ W k) := fun q => gb (hbb.mpr q)
    have ke : k ≠ e := fun q => gn (Or.inl q)
    have ik : IC τ W k := Classical.byContradiction (fun q => gn (Or.inr q))
    refine wp_bd (P := fun v => v = oE τ W k) ?_ ?_
    · refine wp_rd k0 (by omega) ?_
      rw [w32_of (x := τ kR_edgeFrom k) (by omega) (by omega)]
      unfold oE
      exact wp_if (fun c => wp_rd k0 (by omega) (wp_some (by rw [if_pos c]))) (fun c => wp_rd k0 (by omega) (wp_some (by rw [if_neg c])))
    rintro o - eo
    have bo : 0 ≤ o ∧ o < τ kR_hots 0 := by rw [eo]; unfold oE; split <;> omega
    rw [w32_of (x := o) (by omega) (by omega)]
    refine wp_rd (by omega) (by omega) (wp_rd (by omega) (by omega) (wp_rd (by omega) (by omega) (wp_rd (by omega) (by omega) ?_)))
    have ex : τ kR_hotX o - τ kR_hotX W = vX τ W k := by rw [eo]; rfl
    have ey : τ kR_hotY o - τ kR_hotY W = vY τ W k := by rw [eo]; rfl
    have ex2 : τ kR_hotX (τ kR_edgeFrom e) - τ kR_hotX W = vX τ W e := by unfold vX; rw [oe]
    have ey2 : τ kR_hotY (τ kR_edgeFrom e) - τ kR_hotY W = vY τ W e := by unfold vY; rw [oe]
    rw [ex, ey, ex2, ey2]
    rcases inv with ⟨i1, i2⟩ | ⟨i1, i2, i3, i4, i5, i6, i7⟩
    · rw [i1]
      refine wp_if (fun c => absurd (by decide) c.1) (fun _ => wp_il ⟨⟨by dsimp only; omega, Or.inr ⟨k0, by dsimp only; omega, ke, ik, rfl, rfl, fun j j0 j1 je ij jk => ?_⟩⟩, by dsimp only; omega⟩)
      dsimp only at j1 jk
      exact absurd ij (i2 j j0 (by omega) je)
    · have bE : best < τ kR_edges 0 := by omega
      have kb : k ≠ best := by omega
      have ah := EH_ahead hp ho (hN false) h e0 e1 ie k0 gk ik i1 bE i4 (fun q => ke q.symm) (fun q => i3 q.symm) kb
      rw [w32_of (x := best) (by omega) (by omega), i5, i6]
      refine wp_if (fun c => wp_il ⟨⟨by dsimp only; omega, Or.inr ⟨i1, by dsimp only; omega, i3, i4, i5 ▸ rfl, i6 ▸ rfl, fun j j0 j1 je ij jb => ?_⟩⟩, by dsimp only; omega⟩) (fun c => wp_il ⟨⟨by dsimp only; omega, Or.inr ⟨k0, by dsimp only; omega, ke, ik, rfl, rfl, fun j j0 j1 je ij jk => ?_⟩⟩, by dsimp only; omega⟩)
      · dsimp only at j1 jb ⊢
        by_cases d : j = k
        · rw [d]
          exact Bool.eq_false_iff.mpr (fun q => c.2 (ah.mpr q))
        · exact i7 j j0 (by omega) je ij jb
      · dsimp only at j1 jk ⊢
        have ahk : rd1_ (af_ (nX τ) (nY τ) (nF τ) (nT τ) W.toNat) (pe e).toNat (pe k).toNat (pe best).toNat = true := by
          refine ah.mp (Classical.byContradiction (fun q => c ⟨by omega, q⟩))
        by_cases d : j = best
        · rw [d]
          exact rd_as so hMk (EH_ends hp h i1 bE).1 (EH_dir hp h k0 gk ik).1 (EH_dir hp h i1 bE i4).1 ahk
        · refine Bool.eq_false_iff.mpr (fun q => ?_)
          have := rd_tr so hM (EH_ends hp h j0 (by omega)).1 hMk (EH_ends hp h i1 bE).1 icE (EH_dir hp h j0 (by omega) ij).1 (EH_dir hp h k0 gk ik).1 (EH_dir hp h i1 bE i4).1 q ahk
          rw [i7 j j0 (by omega) je ij d] at this
          cases this
  · -- the end
    have kE : k = τ kR_edges 0 := by omega
    rw [kE] at inv
    rcases inv with ⟨i1, i2⟩ | ⟨i1, i2, i3, i4, i5, i6, i7⟩
    · exfalso
      obtain ⟨q, q1, q2, q3, q4⟩ := cy1
      have s := lr_sl (what := what) hN hw q1 q2
      rw [← s.1, ← s.2] at q4
      obtain ⟨j, j0, j1, j2, j3⟩ := isE q q1 q2 q4
      exact i2 j j0 j1 (fun z => q3 (by rw [← j2, z])) j3
    · dsimp only
      refine ⟨i1, i2, i3, ?_⟩
      obtain ⟨hMb, -, -, d1, d2, d3⟩ := EH_ends hp h i1 i2
      have icb := (EH_dir hp h i1 i2 i4).1
      have s := lr_sl (what := what) hN hw hMb icb
      have hd : lr_ τ what W.toNat (pe best).toNat ≠ rr_ τ what W.toNat (pe best).toNat := by
        rcases i4 with z | z
        · have := h.2.1 best i1 i2
          rw [z] at this
          rw [this.2.2.1, this.2.2.2]; decide
        · have := EH_to hp hN h i1 i2
          rw [z] at this
          rw [this.1, this.2]; decide
      have out := cy2 (pe best).toNat hMb icb (pn best e i1 i2 e0 e1 i3) (by rw [← s.1, ← s.2]; exact hd) (fun z z1 z2 z3 z4 z5 => by
        have sz := lr_sl (what := what) hN hw z1 z2
        rw [← sz.1, ← sz.2] at z5
        obtain ⟨j, j0, j1, j2, j3⟩ := isE z z1 z2 z5
        rw [← j2]
        exact i7 j j0 j1 (fun q => z3 (by rw [← j2, q])) j3 (fun q => z4 (by rw [← j2, q])))
      rw [← s.1] at out
      rcases i4 with z | z
      · exact z
      · have := EH_to hp hN h i1 i2
        rw [z, out] at this
        exact absurd this.1 (by decide)
end SNP
