section TRE
theorem nd_le : ∀ (N : Nat) (l : List Nat), l.Nodup → (∀ x ∈ l, x < N) → l.length ≤ N := by
  intro N
  induction N with
  | zero =>
    intro l _ h
    cases l with
    | nil => exact Nat.le_refl _
    | cons x r => exact absurd (h x List.mem_cons_self) (by omega)
  | succ N ih =>
    intro l hn h
    have h1 := ih (l.erase N) (hn.erase N) (fun x hx => by
      have hx2 := (hn.mem_erase_iff).mp hx
      have := h x hx2.2
      have := hx2.1
      omega)
    have h2 : l.length ≤ (l.erase N).length + 1 := by
      by_cases q : N ∈ l
      · have := List.length_erase_of_mem q; omega
      · rw [List.erase_of_not_mem q]; omega
    omega
def dot_ (σ : SG) (a b k : Int) : Int := (σ kR_spotX k - σ kR_spotX a) * (σ kR_spotX k - σ kR_spotX b) + (σ kR_spotY k - σ kR_spotY a) * (σ kR_spotY k - σ kR_spotY b)
/-- an edge of the hull, with no place on it but its ends -/
def HE (σ : SG) (a b : Int) : Prop := a ≠ b ∧ ∀ k, 0 ≤ k → k < σ kR_spots 0 → k ≠ a → 0 ≤ OI σ a b k ∧ (OI σ a b k = 0 → 0 ≤ dot_ σ a b k)
def WV (σ : SG) (cs : List (Int × (Int → Int))) (a b : Int) : Prop := (0 ≤ a ∧ a < σ kR_spots 0) ∧ (0 ≤ b ∧ b < σ kR_spots 0) ∧ (HE σ a b ∨ ∃ x ∈ cs, ED x.1 x.2 b a)
theorem tri_empty {σ : SG} {cs : List (Int × (Int → Int))} (hcs : ∀ x ∈ cs, CG σ x.1 x.2) {a b v : Int} (hw : WV σ cs a b) (v0 : 0 ≤ v) (v1 : v < σ kR_spots 0) (ho : 0 < OI σ a b v) (he : ∀ k, 0 ≤ k → k < σ kR_spots 0 → 0 < OI σ a b k → CI σ a b v k ≤ 0) : ∀ k, 0 ≤ k → k < σ kR_spots 0 → CI σ a b v k ≤ 0 := by
  intro k k0 k1
  obtain ⟨⟨a0, a1⟩, ⟨b0, b1⟩, hw⟩ := hw
  rcases hw with ⟨hne, h⟩ | ⟨x, hx, e⟩
  · by_cases ka : k = a
    · rw [ka, CI_a]; exact Int.le_refl 0
    obtain ⟨p1, p2⟩ := h k k0 k1 ka
    rcases (show 0 < OI σ a b k ∨ OI σ a b k = 0 by omega) with q | q
    · exact he k k0 k1 q
    · have d := p2 q
      have l := ci_line (σ kR_spotX a) (σ kR_spotY a) (σ kR_spotX b) (σ kR_spotY b) (σ kR_spotX v) (σ kR_spotY v) (σ kR_spotX k) (σ kR_spotY k)
      unfold OI at q ho
      rw [q, Int.zero_mul] at l
      unfold CI
      rw [l]
      have := Int.mul_nonneg (Int.le_of_lt ho) d
      unfold dot_ at this
      omega
  · obtain ⟨r, hr, rp, rq, o, hz⟩ := ED_third (hcs x hx) e
    have C := hcs x hx
    rcases (show 0 < OI σ a b k ∨ OI σ a b k ≤ 0 by omega) with q | q
    · exact he k k0 k1 q
    · have s := OI_sw σ a b k
      exact ci_push (p1 := σ kR_spotX b) (p2 := σ kR_spotY b) (q1 := σ kR_spotX a) (q2 := σ kR_spotY a) o ho ((hz k).2.mpr (C.2.2.2.2.1 k k0 k1)) ((hz v).2.mpr (C.2.2.2.2.1 v v0 v1)) (show 0 ≤ OI σ b a k by omega)
theorem tri_ed {σ : SG} (hd : DS σ) {cs : List (Int × (Int → Int))} (hcs : ∀ x ∈ cs, CG σ x.1 x.2) {a b v L : Int} {f : Int → Int} (hw : WV σ cs a b) (v0 : 0 ≤ v) (v1 : v < σ kR_spots 0) (ho : 0 < OI σ a b v) (hem : ∀ k, 0 ≤ k → k < σ kR_spots 0 → CI σ a b v k ≤ 0) (hg : GC σ a b v f L) : ED L f a b := by
  have hC := CG_of ho hem hg
  obtain ⟨⟨a0, a1⟩, ⟨b0, b1⟩, hw⟩ := hw
  have hab : a ≠ b := by intro q; rw [q] at ho; unfold OI oi_ at ho; grind
  have ma : MB L f a := hg.2.2.2.1 a a0 a1 (CI_a _ _ _ _)
  have mb : MB L f b := hg.2.2.2.1 b b0 b1 (CI_b _ _ _ _)
  refine ED_of hC ma mb hab ?_
  intro k hk ka kb
  have hk0 := hk
  obtain ⟨i, i0, i1, rfl⟩ := hk
  obtain ⟨k0, k1, kc⟩ := hg.2.2.1 i i0 i1
  have nl := CI_nl hd ho (CI_a σ a b v) (CI_b σ a b v) kc a0 a1 b0 b1 k0 k1 hab (fun q => ka q.symm) (fun q => kb q.symm)
  rcases Int.lt_trichotomy (OI σ a b (f i)) 0 with q | q | q
  · exfalso
    rcases hw with ⟨-, h⟩ | ⟨x, hx, e⟩
    · have := (h (f i) k0 k1 ka).1; omega
    · have C := hcs x hx
      obtain ⟨r, hr, rp, rq, o, hz⟩ := ED_third C e
      have s := OI_sw σ a b (f i)
      have z : CI σ b a r v = 0 := ci_push2 (p1 := σ kR_spotX b) (p2 := σ kR_spotY b) (q1 := σ kR_spotX a) (q2 := σ kR_spotY a) (k1 := σ kR_spotX (f i)) (k2 := σ kR_spotY (f i)) o ho ((hz (f i)).2.mpr (C.2.2.2.2.1 _ k0 k1)) ((hz v).2.mpr (C.2.2.2.2.1 v v0 v1)) (show 0 < OI σ b a (f i) by omega) kc
      have mv : MB x.1 x.2 v := (C.2.2.2.2.2.1 v v0 v1).mp ((hz v).1.mp z)
      have va : v ≠ a := by intro q; rw [q, OI_0b] at ho; omega
      have vb : v ≠ b := by intro q; rw [q, OI_0] at ho; omega
      have l := ED_left C e mv vb va
      have s2 := OI_sw σ a b v
      omega
  · exact absurd q nl
  · exact q
theorem tri_fresh {σ : SG} {cs : List (Int × (Int → Int))} (hcs : ∀ x ∈ cs, CG σ x.1 x.2) {a b L : Int} {f : Int → Int} (hC : CG σ L f) (he : ED L f a b) (hn : ¬ ∃ x ∈ cs, ED x.1 x.2 a b) : ∀ x ∈ cs, ¬ ∀ z, 0 ≤ z → z < σ kR_spots 0 → (MB x.1 x.2 z ↔ MB L f z) := by
  intro x hx h
  obtain ⟨⟨a0, a1⟩, ⟨b0, b1⟩, hab, ma, mb⟩ := ED_in hC he
  refine hn ⟨x, hx, ED_of (hcs x hx) ((h a a0 a1).mpr ma) ((h b b0 b1).mpr mb) hab (fun k hk ka kb => ?_)⟩
  have hk0 := hk
  obtain ⟨i, i0, i1, rfl⟩ := hk
  have r := (hcs x hx).2.2.1 i i0 i1
  exact ED_left hC he ((h _ r.1 r.2).mp hk0) ka kb
def newcodes (σ : SG) (L : Int) (f : Int → Int) : List Nat := (List.range (L - 2).toNat).map (fun j : Nat => code_ σ f ((j : Int) + 1))
theorem nc_len (σ : SG) (L : Int) (f : Int → Int) : (newcodes σ L f).length = (L - 2).toNat := by unfold newcodes; simp
theorem nc_mem {σ : SG} {L : Int} {f : Int → Int} {c : Nat} (h : c ∈ newcodes σ L f) : ∃ k, 1 ≤ k ∧ k + 1 < L ∧ c = code_ σ f k := by
  unfold newcodes at h
  obtain ⟨j, hj, e⟩ := List.mem_map.mp h
  have := List.mem_range.mp hj
  exact ⟨(j : Int) + 1, by omega, by omega, e.symm⟩
theorem code_lt {σ : SG} {L : Int} {f : Int → Int} (hC : CG σ L f) {k : Int} (k1 : 1 ≤ k) (k2 : k + 1 < L) : code_ σ f k < 2 * (σ kR_spots 0).toNat := by
  have a := hC.2.2.1 k (by omega) (by omega)
  have b := hC.2.2.1 (k + 1) (by omega) (by omega)
  unfold code_
  split <;> omega
theorem code_inj {σ : SG} {L : Int} {f : Int → Int} (hC : CG σ L f) {k l : Int} (k1 : 1 ≤ k) (k2 : k + 1 < L) (l1 : 1 ≤ l) (l2 : l + 1 < L) (e : code_ σ f k = code_ σ f l) : k = l := by
  have a := hC.2.2.1 k (by omega) (by omega)
  have b := hC.2.2.1 (k + 1) (by omega) (by omega)
  have c := hC.2.2.1 l (by omega) (by omega)
  have d := hC.2.2.1 (l + 1) (by omega) (by omega)
  unfold code_ at e
  split at e <;> split at e
  · exact CG_inj hC (by omega) (by omega) (by omega) (by omega) (by omega)
  · omega
  · omega
  · have := CG_inj hC (i := k + 1) (j := l + 1) (by omega) (by omega) (by omega) (by omega) (by omega)
    omega
theorem nc_nodup {σ : SG} {L : Int} {f : Int → Int} (hC : CG σ L f) : (newcodes σ L f).Nodup := by
  unfold newcodes
  unfold List.Nodup
  rw [List.pairwise_map]
  refine List.Pairwise.imp_of_mem ?_ (List.pairwise_lt_range (n := (L - 2).toNat))
  intro i j hi hj hij e
  have := List.mem_range.mp hi
  have := List.mem_range.mp hj
  have := code_inj hC (k := (i : Int) + 1) (l := (j : Int) + 1) (by omega) (by omega) (by omega) (by omega) e
  omega
/-- all that holds while triangles are gathered -/
def TI (σ τ : SG) (cs : List (Int × (Int → Int))) (codes : List Nat) : Prop :=
  (∀ x ∈ cs, CG σ x.1 x.2) ∧ codes.Nodup ∧ (∀ c ∈ codes, c < 2 * (σ kR_spots 0).toNat ∧ ∃ x ∈ cs, ∃ k, 1 ≤ k ∧ k + 1 < x.1 ∧ c = code_ σ x.2 k) ∧ (codes.length : Int) = τ kR_triangleMany 0 ∧
  (∀ p q, 0 ≤ p → p < σ kR_spots 0 → 0 ≤ q → q < σ kR_spots 0 → (τ kR_isDone (1024 * p + q) ≠ 0 ↔ ∃ x ∈ cs, ED x.1 x.2 p q)) ∧
  (∀ i, 0 ≤ i → i < τ kR_waits 0 → WV σ cs (τ kR_waitFrom i) (τ kR_waitTo i)) ∧ τ kR_waits 0 ≤ 1 + 3 * τ kR_triangleMany 0
theorem TI_le {σ τ : SG} {cs : List (Int × (Int → Int))} {codes : List Nat} (hs : σ kR_spots 0 ≤ 1024) (h : TI σ τ cs codes) : τ kR_triangleMany 0 ≤ 2048 := by
  have := nd_le _ codes h.2.1 (fun x hx => (h.2.2.1 x hx).1)
  have := h.2.2.2.1
  omega
theorem TI_new {σ τ : SG} (hd : DS σ) {cs : List (Int × (Int → Int))} {codes : List Nat} (h : TI σ τ cs codes) {L : Int} {f : Int → Int} (hC : CG σ L f) (hf : ∀ x ∈ cs, ¬ ∀ z, 0 ≤ z → z < σ kR_spots 0 → (MB x.1 x.2 z ↔ MB L f z)) : (codes ++ newcodes σ L f).Nodup ∧ ∀ c ∈ codes ++ newcodes σ L f, c < 2 * (σ kR_spots 0).toNat ∧ ∃ x ∈ (L, f) :: cs, ∃ k, 1 ≤ k ∧ k + 1 < x.1 ∧ c = code_ σ x.2 k := by
  obtain ⟨h1, h2, h3, -⟩ := h
  constructor
  · rw [List.nodup_append]
    refine ⟨h2, nc_nodup hC, ?_⟩
    intro c hc d hd2 e
    subst e
    obtain ⟨-, x, hx, k, k1, k2, e1⟩ := h3 c hc
    obtain ⟨l, l1, l2, e2⟩ := nc_mem hd2
    exact hf x hx (code_one hd (h1 x hx) hC k1 k2 l1 l2 (by rw [← e1, ← e2]))
  · intro c hc
    rcases List.mem_append.mp hc with q | q
    · obtain ⟨p1, x, hx, r⟩ := h3 c q
      exact ⟨p1, x, List.mem_cons_of_mem _ hx, r⟩
    · obtain ⟨l, l1, l2, e2⟩ := nc_mem q
      refine ⟨by rw [e2]; exact code_lt hC l1 l2, (L, f), List.mem_cons_self, l, l1, l2, e2⟩
theorem v_addTriangle {σ : SG} {a b c : Int} (hσ : II σ) (a0 : 0 ≤ a) (a1 : a ≤ 1023) (b0 : 0 ≤ b) (b1 : b ≤ 1023) (c0 : 0 ≤ c) (c1 : c ≤ 1023) (hm : σ kR_triangleMany 0 ≤ 2099) : wp_ (fR_addTriangle σ a b c) (fun τ => II τ ∧ FR [kR_triangleA, kR_triangleB, kR_triangleC, kR_triangleMany] σ τ ∧ τ kR_triangleMany 0 = σ kR_triangleMany 0 + 1) := by
  unfold fR_addTriangle
  have hM := ii_kR_triangleMany hσ 0
  rw [w32_of (x := a) (by omega) (by omega), w32_of (x := b) (by omega) (by omega), w32_of (x := c) (by omega) (by omega)]
  refine wp_lt (fun x ex => ?_)
  have bx : 0 ≤ x ∧ x ≤ 1023 := by rw [ex]; split <;> (try split) <;> omega
  rw [w32_of (x := x) (by omega) (by omega)]
  refine wp_lt (fun y ey => ?_)
  have byy : 0 ≤ y ∧ y ≤ 1023 := by rw [ey]; split <;> (try split) <;> omega
  refine wp_lt (fun z ez => ?_)
  have bz : 0 ≤ z ∧ z ≤ 1023 := by rw [ez]; split <;> (try split) <;> omega
  refine wp_bd (P := fun s => II s.2 ∧ FR [kR_triangleA, kR_triangleB, kR_triangleC, kR_triangleMany] σ s.2 ∧ s.2 kR_triangleMany 0 = σ kR_triangleMany 0 ∧ 0 ≤ s.1 ∧ s.1 ≤ σ kR_triangleMany 0) ?_ ?_
  · refine wp_whl (fun s => II s.2 ∧ FR [kR_triangleA, kR_triangleB, kR_triangleC, kR_triangleMany] σ s.2 ∧ s.2 kR_triangleMany 0 = σ kR_triangleMany 0 ∧ 0 ≤ s.1 ∧ s.1 ≤ σ kR_triangleMany 0) (fun s => s.1.toNat) ⟨hσ, FR_refl _ _, rfl, hM.1, Int.le_refl _⟩ ?_
    rintro ⟨k, τ⟩ ⟨hτ, hf, hmm, k0, k1⟩
    dsimp only at hτ hf hmm k0 k1 ⊢
    rw [w32_of (x := k) (by omega) (by omega)]
    refine wp_if (fun p => ?_) (fun p => ?_)
    · refine wp_bd (s_R_isLater hτ (by omega) bx byy bz) ?_
      rintro w - -
      refine wp_if (fun q => ?_) (fun q => ?_)
      · rw [w32_of (x := k - 1) (by omega) (by omega)]
        have t1 := ii_kR_triangleA hτ (k - 1)
        refine wp_rd (by omega) (by omega) ?_
        refine wp_waI hτ b_kR_triangleA (by omega) (by omega) t1 (fun σ1 h1 e1 => ?_)
        have t2 := ii_kR_triangleB h1 (k - 1)
        refine wp_rd (by omega) (by omega) ?_
        refine wp_waI h1 b_kR_triangleB (by omega) (by omega) t2 (fun σ2 h2 e2 => ?_)
        have t3 := ii_kR_triangleC h2 (k - 1)
        refine wp_rd (by omega) (by omega) ?_
        refine wp_waI h2 b_kR_triangleC (by omega) (by omega) t3 (fun σ3 h3 e3 => ?_)
        refine wp_il ⟨⟨h3, ?_, ?_, by dsimp only; omega, by dsimp only; omega⟩, by dsimp only; omega⟩
        · exact FR_tr (FR_tr (FR_tr hf (FR_sg e1) (by decide) (by decide) : FR [kR_triangleA, kR_triangleB, kR_triangleC, kR_triangleMany] σ σ1) (FR_sg e2) (by decide) (by decide) : FR [kR_triangleA, kR_triangleB, kR_triangleC, kR_triangleMany] σ σ2) (FR_sg e3) (by decide) (by decide)
        · show σ3 kR_triangleMany 0 = _
          rw [e3, sg_nc (by decide), e2, sg_nc (by decide), e1, sg_nc (by decide)]; exact hmm
      · exact wp_ir ⟨hτ, hf, hmm, k0, k1⟩
    · exact wp_ir ⟨hτ, hf, hmm, k0, k1⟩
  rintro ⟨k, τ⟩ - ⟨hτ, hf, hmm, k0, k1⟩
  dsimp only at hτ hf hmm k0 k1 ⊢
  rw [w32_of (x := k) (by omega) (by omega)]
  refine wp_waI hτ b_kR_triangleA (by omega) (by omega) bx (fun σ1 h1 e1 => ?_)
  refine wp_waI h1 b_kR_triangleB (by omega) (by omega) byy (fun σ2 h2 e2 => ?_)
  refine wp_waI h2 b_kR_triangleC (by omega) (by omega) bz (fun σ3 h3 e3 => ?_)
  have em : σ3 kR_triangleMany 0 = σ kR_triangleMany 0 := by rw [e3, sg_nc (by decide), e2, sg_nc (by decide), e1, sg_nc (by decide)]; exact hmm
  refine wp_wfI h3 b_kR_triangleMany (by omega) (fun σ4 h4 e4 => wp_some ⟨h4, ?_, ?_⟩)
  · exact FR_tr (FR_tr (FR_tr (FR_tr hf (FR_sg e1) (by decide) (by decide) : FR [kR_triangleA, kR_triangleB, kR_triangleC, kR_triangleMany] σ σ1) (FR_sg e2) (by decide) (by decide) : FR [kR_triangleA, kR_triangleB, kR_triangleC, kR_triangleMany] σ σ2) (FR_sg e3) (by decide) (by decide) : FR [kR_triangleA, kR_triangleB, kR_triangleC, kR_triangleMany] σ σ3) (FR_sg e4) (by decide) (by decide)
  · rw [sg_val e4, em]
theorem v_waitFor {σ : SG} {a b : Int} (hσ : II σ) (a0 : 0 ≤ a) (a1 : a ≤ 1023) (b0 : 0 ≤ b) (b1 : b ≤ 1023) (hm : σ kR_waits 0 ≤ 8199) : wp_ (fR_waitFor σ a b) (fun τ => II τ ∧ FR [kR_waitFrom, kR_waitTo, kR_waits] σ τ ∧ τ kR_waits 0 = σ kR_waits 0 + 1 ∧ τ kR_waitFrom (σ kR_waits 0) = a ∧ τ kR_waitTo (σ kR_waits 0) = b ∧ ∀ i, i ≠ σ kR_waits 0 → τ kR_waitFrom i = σ kR_waitFrom i ∧ τ kR_waitTo i = σ kR_waitTo i) := by
  unfold fR_waitFor
  have hM := ii_kR_waits hσ 0
  rw [w32_of (x := σ kR_waits 0) (by omega) (by omega)]
  refine wp_waI hσ b_kR_waitFrom (by omega) (by omega) (by omega) (fun σ1 h1 e1 => ?_)
  have w1 : σ1 kR_waits 0 = σ kR_waits 0 := by rw [e1, sg_nc (by decide)]
  rw [w1, w32_of (x := σ kR_waits 0) (by omega) (by omega)]
  refine wp_waI h1 b_kR_waitTo (by omega) (by omega) (by omega) (fun σ2 h2 e2 => ?_)
  have w2 : σ2 kR_waits 0 = σ kR_waits 0 := by rw [e2, sg_nc (by decide)]; exact w1
  rw [w2]
  refine wp_wfI h2 b_kR_waits (by omega) (fun σ3 h3 e3 => wp_some ⟨h3, ?_, sg_val e3, ?_, ?_, fun i hi => ⟨?_, ?_⟩⟩)
  · exact FR_tr (FR_tr (FR_le (FR_sg e1) (by decide) : FR [kR_waitFrom, kR_waitTo, kR_waits] σ σ1) (FR_sg e2) (by decide) (by decide) : FR [kR_waitFrom, kR_waitTo, kR_waits] σ σ2) (FR_sg e3) (by decide) (by decide)
  · rw [e3, sg_nc (by decide), e2, sg_nc (by decide), e1, sg_at]
  · rw [e3, sg_nc (by decide), e2, sg_at]
  · rw [e3, sg_nc (by decide), e2, sg_nc (by decide), e1, sg_ni hi]
  · rw [e3, sg_nc (by decide), e2, sg_ni hi, e1, sg_nc (by decide)]
end TRE
