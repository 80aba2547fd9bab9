section SHW
theorem el_3 {pl : Int → Int} {p : Int} (h : pl p = 3) : eL pl p = 2 + pl (p + 1) := by unfold eL; rw [if_pos h]
theorem el_n {pl : Int → Int} {p : Int} (h : ¬ pl p = 3) : eL pl p = 2 := by unfold eL; rw [if_neg h]
theorem ep_l {pl : Int → Int} {p : Int} (h : pl p < 3) : eP pl p = pl (p + 1) := by unfold eP; rw [if_pos h]
theorem ep_3 {pl : Int → Int} {p : Int} (h : pl p = 3) : eP pl p = su_ pl (p + 2) (pl (p + 1)).toNat := by unfold eP; rw [if_neg (by omega), if_pos h]
theorem ep_g {pl : Int → Int} {p : Int} (h : 3 < pl p) : eP pl p = 0 := by unfold eP; rw [if_neg (by omega), if_neg (by omega)]
/-- flat: what follows a MULTIPOLYGON are its parts -/
def FM (pl : Int → Int) : Nat → Int → Int → Prop
  | 0, p, q => p = q
  | m + 1, p, q => (pl p = 6 → ∃ r, r ≤ q ∧ PT pl 3 (pl (p + 1)).toNat (p + 2) r) ∧ FM pl m (p + eL pl p) q
theorem FM_ap {pl : Int → Int} : ∀ {m m' : Nat} {p q r : Int}, FM pl m p q → FM pl m' q r → q ≤ r → FM pl (m + m') p r
  | 0, m', p, q, r, h, g, _ => by have : p = q := h; subst this; rw [Nat.zero_add]; exact g
  | m + 1, m', p, q, r, h, g, l => by
    obtain ⟨a, b⟩ := h
    rw [show m + 1 + m' = m + m' + 1 by omega]
    exact ⟨fun e => by obtain ⟨s, s1, s2⟩ := a e; exact ⟨s, by omega, s2⟩, FM_ap b g l⟩
theorem PT_FM {pl : Int → Int} {k : Int} (hk : k ≤ 3) : ∀ {n : Nat} {p q : Int}, PT pl k n p q → FM pl n p q
  | 0, p, q, h => h
  | n + 1, p, q, h => by
    obtain ⟨a, b, c⟩ := h
    exact ⟨fun e => by omega, PT_FM hk c⟩
theorem TU_FM {pl : Int → Int} : ∀ {f d n : Nat} {p q : Int}, TU pl f d n p q → ∃ m, FM pl m p q
  | 0, d, n, p, q, h => ⟨0, h.2⟩
  | f + 1, d, n, p, q, h => by
    rcases h with ⟨a, b⟩ | ⟨a, r, b, c⟩
    · exact ⟨0, b⟩
    · obtain ⟨m, hm⟩ := TU_FM c
      have lc := TU_le c
      rcases b with ⟨b1, b2, b3, b4⟩ | ⟨b1, b2, b3, b4⟩ | ⟨b1, b2, b3, b4⟩
      · exact ⟨m + 1, fun e => by omega, by rw [← b4]; exact hm⟩
      · have e : eL pl p = 2 := el_n (by omega)
        have g := FM_ap (PT_FM (by omega) b4) hm (by omega)
        refine ⟨(pl (p + 1)).toNat + m + 1, fun e => ⟨r, by omega, ?_⟩, by rw [e]; exact g⟩
        rw [e] at b4; exact b4
      · have e : eL pl p = 2 := el_n (by omega)
        obtain ⟨m', hm'⟩ := TU_FM b4
        exact ⟨m' + m + 1, fun e => by omega, by rw [e]; exact FM_ap hm' hm (by omega)⟩
theorem FM_le {pl : Int → Int} : ∀ {m : Nat} {p q t : Int} {k : Nat}, FM pl m p q → FL pl k p q t → True := fun _ _ => trivial
/-- a walk over slot s stands at p in the plan, at pt in the points -/
def FLw (σ : SG) (s p pt : Int) : Prop := (∃ m, FL (σ kR_plan) m p (2048 * s + σ kR_planMany s) (2048 * s + σ kR_pointMany s - pt)) ∧ (∃ m, FM (σ kR_plan) m p (2048 * s + σ kR_planMany s)) ∧ 2048 * s ≤ p ∧ 2048 * s ≤ pt
theorem FLw_0 {σ : SG} {s : Int} (h : SH σ s) : FLw σ s (2048 * s) (2048 * s) := by
  refine ⟨?_, ?_, Int.le_refl _, Int.le_refl _⟩
  · obtain ⟨m, hm⟩ := SH_fl h
    exact ⟨m, by rw [show 2048 * s + σ kR_pointMany s - 2048 * s = σ kR_pointMany s by omega]; exact hm⟩
  · rcases h with ⟨a, _⟩ | ⟨_, _, f, hf⟩
    · exact ⟨0, by show 2048 * s = 2048 * s + σ kR_planMany s; omega⟩
    · exact TU_FM hf
theorem FLw_le {σ : SG} {s p pt : Int} (h : FLw σ s p pt) : p ≤ 2048 * s + σ kR_planMany s ∧ pt ≤ 2048 * s + σ kR_pointMany s ∧ 2048 * s ≤ p ∧ 2048 * s ≤ pt := by
  obtain ⟨⟨m, hm⟩, _, a, b⟩ := h
  have := FL_le hm
  omega
theorem FLw_hd {σ : SG} {s p pt : Int} (h : FLw σ s p pt) (hp : p < 2048 * s + σ kR_planMany s) : eO (σ kR_plan) p ∧ FLw σ s (p + eL (σ kR_plan) p) (pt + eP (σ kR_plan) p) ∧ 2 ≤ eL (σ kR_plan) p ∧ p + eL (σ kR_plan) p ≤ 2048 * s + σ kR_planMany s ∧ 0 ≤ eP (σ kR_plan) p ∧ pt + eP (σ kR_plan) p ≤ 2048 * s + σ kR_pointMany s ∧ (σ kR_plan p = 6 → ∃ r, r ≤ 2048 * s + σ kR_planMany s ∧ PT (σ kR_plan) 3 (σ kR_plan (p + 1)).toNat (p + 2) r) := by
  obtain ⟨⟨m, hm⟩, ⟨k, hk⟩, a, b⟩ := h
  obtain ⟨m', rfl, ho, ht, h2, h3, h4, h5⟩ := FL_hd hm hp
  have h6 := (FL_le ht).1
  cases k with
  | zero => have : p = 2048 * s + σ kR_planMany s := hk; omega
  | succ k =>
    obtain ⟨k1, k2⟩ := hk
    refine ⟨ho, ⟨⟨m', ?_⟩, ⟨k, k2⟩, by omega, by omega⟩, h2, by omega, h4, by omega, k1⟩
    rw [show 2048 * s + σ kR_pointMany s - (pt + eP (σ kR_plan) p) = 2048 * s + σ kR_pointMany s - pt - eP (σ kR_plan) p by omega]
    exact ht
theorem FLw_pl {σ τ : SG} {s p pt : Int} (h : FLw σ s p pt) (h1 : τ kR_plan = σ kR_plan) (h2 : τ kR_planMany s = σ kR_planMany s) (h3 : τ kR_pointMany s = σ kR_pointMany s) : FLw τ s p pt := by
  unfold FLw; rw [h1, h2, h3]; exact h
/-- a walk over the rings of an entry: k are passed -/
def RWp (pl : Int → Int) (p k pp pt pu : Int) : Prop := 0 ≤ k ∧ ((pl p = 3 ∧ k ≤ pl (p + 1) ∧ pp = p + 2 + k ∧ pu = pt + su_ pl (p + 2) k.toNat) ∨ (¬ pl p = 3 ∧ k = 0 ∧ pp = p + 2 ∧ pu = pt + eP pl p))
theorem RW_0 {pl : Int → Int} {p pt x n : Int} (ho : eO pl p) (hx : x = pl p) (hn : n = pl (p + 1)) : RWp pl p 0 (p + 2) pt (pt + (if w32 x < 3 then n else 0)) := by
  obtain ⟨o1, o2, o3, _⟩ := ho
  rw [w32_of (by omega) (by omega), hx, hn]
  refine ⟨Int.le_refl 0, ?_⟩
  by_cases q : pl p = 3
  · exact Or.inl ⟨q, o3.1, by omega, by rw [if_neg (by omega)]; rfl⟩
  · refine Or.inr ⟨q, rfl, rfl, ?_⟩
    by_cases r : pl p < 3
    · rw [if_pos r, ep_l r]
    · rw [if_neg r, ep_g (by omega)]
theorem RW_go {pl : Int → Int} {p k pp pt pu : Int} (ho : eO pl p) (h : RWp pl p k pp pt pu) (h3 : pl p = 3) (hk : k < pl (p + 1)) : RWp pl p (k + 1) (pp + 1) pt (pu + pl pp) ∧ pp = p + 2 + k ∧ 0 ≤ pl pp ∧ pu + pl pp ≤ pt + eP pl p ∧ pt ≤ pu ∧ pp + 1 ≤ p + eL pl p := by
  obtain ⟨k0, h⟩ := h
  rcases h with ⟨_, h2, e1, e2⟩ | ⟨q, _⟩
  · obtain ⟨o1, o2, o3, _, o5⟩ := ho
    have n0 := o5 h3 k k0 hk
    have nn : ∀ i, p + 2 ≤ i → i < p + 2 + ((pl (p + 1)).toNat : Int) → 0 ≤ pl i := fun i a b => by
      have := o5 h3 (i - (p + 2)) (by omega) (by omega)
      rw [show p + 2 + (i - (p + 2)) = i by omega] at this
      exact this
    have s0 := su_nn (pl := pl) (p := p + 2) (n := k.toNat) (fun i a b => nn i a (by omega))
    have s1 := su_le (pl := pl) (p := p + 2) (m := (k + 1).toNat) (n := (pl (p + 1)).toNat) (by omega) nn
    rw [su_i k0] at s1
    have ee := ep_3 h3
    have el := el_3 h3
    rw [← e1] at n0
    rw [show p + 2 + k = pp by omega] at s1
    refine ⟨⟨by omega, Or.inl ⟨h3, by omega, by omega, ?_⟩⟩, e1, n0, by omega, by omega, by omega⟩
    rw [su_i k0, show p + 2 + k = pp by omega]; omega
  · exact absurd h3 q
theorem RW_end {pl : Int → Int} {p k pp pt pu : Int} (ho : eO pl p) (h : RWp pl p k pp pt pu) (hk : ¬ (pl p = 3 ∧ k < pl (p + 1))) : pp = p + eL pl p ∧ pu = pt + eP pl p := by
  obtain ⟨k0, h⟩ := h
  rcases h with ⟨h3, h2, e1, e2⟩ | ⟨q, _, e1, e2⟩
  · have : k = pl (p + 1) := by
      by_cases q : k < pl (p + 1)
      · exact absurd ⟨h3, q⟩ hk
      · omega
    rw [el_3 h3, ep_3 h3, ← this]
    exact ⟨by omega, e2⟩
  · rw [el_n q]; exact ⟨e1, e2⟩
theorem RW_le {pl : Int → Int} {p k pp pt pu : Int} (ho : eO pl p) (h : RWp pl p k pp pt pu) : 0 ≤ k ∧ pt ≤ pu ∧ pu ≤ pt + eP pl p ∧ p + 2 ≤ pp ∧ pp ≤ p + eL pl p ∧ k + 2 ≤ eL pl p := by
  have l2 := eL_2 ho
  have p0 := eP_0 ho
  obtain ⟨k0, h⟩ := h
  rcases h with ⟨h3, h2, e1, e2⟩ | ⟨q, _, e1, e2⟩
  · obtain ⟨o1, o2, o3, _, o5⟩ := ho
    have nn : ∀ i, p + 2 ≤ i → i < p + 2 + ((pl (p + 1)).toNat : Int) → 0 ≤ pl i := fun i a b => by
      have := o5 h3 (i - (p + 2)) (by omega) (by omega)
      rw [show p + 2 + (i - (p + 2)) = i by omega] at this
      exact this
    have s0 := su_nn (pl := pl) (p := p + 2) (n := k.toNat) (fun i a b => nn i a (by omega))
    have s1 := su_le (pl := pl) (p := p + 2) (m := k.toNat) (n := (pl (p + 1)).toNat) (by omega) nn
    have ee := ep_3 h3
    have el := el_3 h3
    omega
  · omega
/-- cells that frames keep -/
def dj (ms cs : List Nat) : Bool := cs.all (fun c => !ms.contains c)
theorem dj_c {ms cs : List Nat} {c : Nat} (h : dj ms cs = true) (hc : cs.contains c = true) : ms.contains c = false := by
  have := List.all_eq_true.mp h c (by simpa using hc)
  simpa using this
theorem FR_dj {ms cs : List Nat} {σ τ : SG} (f : FR ms σ τ) (h : dj ms cs = true) {c : Nat} (hc : cs.contains c = true) : τ c = σ c := funext (FR_at f (dj_c h hc))
abbrev shc : List Nat := [kR_plan, kR_planMany, kR_pointMany]
theorem SHs_f {σ τ : SG} {ms : List Nat} (f : FR ms σ τ) (h : dj ms shc = true) (j : SHs σ) : SHs τ := SHs_fr f (dj_c h (by decide)) (dj_c h (by decide)) (dj_c h (by decide)) j
theorem SH_f {σ τ : SG} {ms : List Nat} {s : Int} (f : FR ms σ τ) (h : dj ms shc = true) (j : SH σ s) : SH τ s := SH_fr f (dj_c h (by decide)) (dj_c h (by decide)) (dj_c h (by decide)) j
theorem FLw_f {σ τ : SG} {ms : List Nat} {s p pt : Int} (f : FR ms σ τ) (h : dj ms shc = true) (j : FLw σ s p pt) : FLw τ s p pt := FLw_pl j (FR_dj f h (by decide)) (FR_at f (dj_c h (by decide)) _) (FR_at f (dj_c h (by decide)) _)
/-- nothing but the shape that is made is touched -/
def NF (σ τ : SG) : Prop := (∀ i, i < 65536 → τ kR_plan i = σ kR_plan i ∧ τ kR_xs i = σ kR_xs i ∧ τ kR_ys i = σ kR_ys i) ∧ ∀ s, s ≠ 32 → τ kR_planMany s = σ kR_planMany s ∧ τ kR_pointMany s = σ kR_pointMany s
theorem NF_refl (σ : SG) : NF σ σ := ⟨fun _ _ => ⟨rfl, rfl, rfl⟩, fun _ _ => ⟨rfl, rfl⟩⟩
theorem NF_tr {σ τ υ : SG} (a : NF σ τ) (b : NF τ υ) : NF σ υ := ⟨fun i h => ⟨((b.1 i h).1).trans (a.1 i h).1, ((b.1 i h).2.1).trans (a.1 i h).2.1, ((b.1 i h).2.2).trans (a.1 i h).2.2⟩, fun s h => ⟨((b.2 s h).1).trans (a.2 s h).1, ((b.2 s h).2).trans (a.2 s h).2⟩⟩
abbrev nfc : List Nat := [kR_plan, kR_planMany, kR_pointMany, kR_xs, kR_ys]
theorem NF_of {τ υ : SG} {ms : List Nat} (f : FR ms τ υ) (h : dj ms nfc = true) : NF τ υ := by
  unfold NF
  rw [FR_dj f h (c := kR_plan) (by decide), FR_dj f h (c := kR_planMany) (by decide), FR_dj f h (c := kR_pointMany) (by decide), FR_dj f h (c := kR_xs) (by decide), FR_dj f h (c := kR_ys) (by decide)]
  exact ⟨fun _ _ => ⟨rfl, rfl, rfl⟩, fun _ _ => ⟨rfl, rfl⟩⟩
theorem NF_fr {σ τ υ : SG} {ms : List Nat} (a : NF σ τ) (f : FR ms τ υ) (h : dj ms nfc = true) : NF σ υ := NF_tr a (NF_of f h)
theorem NF_plan {σ τ : SG} {i v : Int} (e : τ = sg σ kR_plan i v) (h : 65536 ≤ i) : NF σ τ := by
  subst e
  exact ⟨fun j hj => ⟨sg_ni (by omega), sg_nc (by decide), sg_nc (by decide)⟩, fun s _ => ⟨sg_nc (by decide), sg_nc (by decide)⟩⟩
theorem NF_xs {σ τ : SG} {i v : Int} (e : τ = sg σ kR_xs i v) (h : 65536 ≤ i) : NF σ τ := by
  subst e
  exact ⟨fun j hj => ⟨sg_nc (by decide), sg_ni (by omega), sg_nc (by decide)⟩, fun s _ => ⟨sg_nc (by decide), sg_nc (by decide)⟩⟩
theorem NF_ys {σ τ : SG} {i v : Int} (e : τ = sg σ kR_ys i v) (h : 65536 ≤ i) : NF σ τ := by
  subst e
  exact ⟨fun j hj => ⟨sg_nc (by decide), sg_nc (by decide), sg_ni (by omega)⟩, fun s _ => ⟨sg_nc (by decide), sg_nc (by decide)⟩⟩
theorem NF_planMany {σ τ : SG} {v : Int} (e : τ = sg σ kR_planMany 32 v) : NF σ τ := by
  subst e
  exact ⟨fun j hj => ⟨sg_nc (by decide), sg_nc (by decide), sg_nc (by decide)⟩, fun s h => ⟨sg_ni h, sg_nc (by decide)⟩⟩
theorem NF_pointMany {σ τ : SG} {v : Int} (e : τ = sg σ kR_pointMany 32 v) : NF σ τ := by
  subst e
  exact ⟨fun j hj => ⟨sg_nc (by decide), sg_nc (by decide), sg_nc (by decide)⟩, fun s h => ⟨sg_nc (by decide), sg_ni h⟩⟩
theorem NF_SH {σ τ : SG} (a : NF σ τ) {s : Int} (h0 : 0 ≤ s) (h1 : s < 32) (hm : σ kR_planMany s ≤ 2048) (h : SH σ s) : SH τ s := by
  obtain ⟨m1, m2⟩ := a.2 s (by omega)
  unfold SH
  rw [m1, m2]
  rcases h with h | ⟨k, ⟨m, f⟩, g, t⟩
  · exact Or.inl h
  · exact Or.inr ⟨k, ⟨m, FL_cg f (fun i i0 i1 => (a.1 i (by omega)).1)⟩, g, TU_cg t (fun i i0 i1 => (a.1 i (by omega)).1)⟩
theorem NF_SHs {σ τ : SG} (hσ : II σ) (a : NF σ τ) (h : SHs σ) : SHs τ := fun s s0 s1 => NF_SH a s0 s1 (ii_kR_planMany hσ s).2 (h s s0 s1)
/-- slot f's shape was moved to slot t -/
def MVd (σ τ : SG) (f t : Int) : Prop := (∀ k, 0 ≤ k → k < σ kR_planMany f → τ kR_plan (2048 * t + k) = σ kR_plan (2048 * f + k)) ∧ (∀ i, (i < 2048 * t ∨ 2048 * t + 2048 ≤ i) → τ kR_plan i = σ kR_plan i) ∧ (∀ k, 0 ≤ k → k < σ kR_pointMany f → τ kR_xs (2048 * t + k) = σ kR_xs (2048 * f + k) ∧ τ kR_ys (2048 * t + k) = σ kR_ys (2048 * f + k)) ∧ (∀ i, (i < 2048 * t ∨ 2048 * t + 2048 ≤ i) → τ kR_xs i = σ kR_xs i ∧ τ kR_ys i = σ kR_ys i) ∧ (τ kR_planMany t = σ kR_planMany f ∧ τ kR_pointMany t = σ kR_pointMany f) ∧ ∀ s, s ≠ t → τ kR_planMany s = σ kR_planMany s ∧ τ kR_pointMany s = σ kR_pointMany s
theorem MV_SH {σ τ : SG} {f t : Int} (a : MVd σ τ f t) (h : SH σ f) : SH τ t := by
  obtain ⟨a1, a2, a3, a4, ⟨a5, a6⟩, a7⟩ := a
  unfold SH
  rw [a5, a6]
  have mv : ∀ i, 2048 * f ≤ i → i < 2048 * f + σ kR_planMany f → τ kR_plan (i + (2048 * t - 2048 * f)) = σ kR_plan i := fun i i0 i1 => by
    have := a1 (i - 2048 * f) (by omega) (by omega)
    rw [show 2048 * t + (i - 2048 * f) = i + (2048 * t - 2048 * f) by omega, show 2048 * f + (i - 2048 * f) = i by omega] at this
    exact this
  rcases h with h | ⟨k, ⟨m, hf⟩, g, ht⟩
  · exact Or.inl h
  · refine Or.inr ⟨k, ⟨m, ?_⟩, g, ?_⟩
    · have := FL_mv hf mv
      rw [show 2048 * f + (2048 * t - 2048 * f) = 2048 * t by omega, show 2048 * f + σ kR_planMany f + (2048 * t - 2048 * f) = 2048 * t + σ kR_planMany f by omega] at this
      exact this
    · have := TU_mv ht mv
      rw [show 2048 * f + (2048 * t - 2048 * f) = 2048 * t by omega, show 2048 * f + σ kR_planMany f + (2048 * t - 2048 * f) = 2048 * t + σ kR_planMany f by omega] at this
      exact this
theorem MV_SHs {σ τ : SG} {f t : Int} (hσ : II σ) (a : MVd σ τ f t) (h : SH σ f) (g : SHs σ) : SHs τ := by
  intro s s0 s1
  by_cases q : s = t
  · rw [q]; exact MV_SH a h
  · obtain ⟨a1, a2, a3, a4, a5, a7⟩ := a
    obtain ⟨m1, m2⟩ := a7 s q
    have b := (ii_kR_planMany hσ s).2
    have sm : ∀ i, 2048 * s ≤ i → i < 2048 * s + σ kR_planMany s → τ kR_plan i = σ kR_plan i := fun i i0 i1 => a2 i (by omega)
    unfold SH
    rw [m1, m2]
    rcases g s s0 s1 with h | ⟨k, ⟨m, f⟩, g, t⟩
    · exact Or.inl h
    · exact Or.inr ⟨k, ⟨m, FL_cg f sm⟩, g, TU_cg t sm⟩
theorem SHs_clear {σ τ : SG} {t : Int} (h1 : ∀ i, τ kR_plan i = σ kR_plan i) (h2 : τ kR_planMany t = 0 ∧ τ kR_pointMany t = 0) (h3 : ∀ s, s ≠ t → τ kR_planMany s = σ kR_planMany s ∧ τ kR_pointMany s = σ kR_pointMany s) (g : SHs σ) : SHs τ := by
  intro s s0 s1
  by_cases q : s = t
  · rw [q]; exact Or.inl h2
  · obtain ⟨m1, m2⟩ := h3 s q
    have e : τ kR_plan = σ kR_plan := funext h1
    unfold SH
    rw [m1, m2, e]
    exact g s s0 s1
/-- the judge's table of rings: places, parts -/
def GTb (σ : SG) : Prop := (∀ r, 0 ≤ r → r < σ kR_ringMany 0 → σ kR_ringFrom r + σ kR_ringSize r ≤ 67584) ∧ (∀ p, 0 ≤ p → p ≤ σ kR_partMany 0 → 0 < σ kR_partMany 0 → σ kR_partFrom p ≤ σ kR_ringMany 0) ∧ ∀ p, 0 ≤ p → p < σ kR_partMany 0 → σ kR_partFrom p ≤ σ kR_partFrom (p + 1)
abbrev gtc : List Nat := [kR_ringFrom, kR_ringSize, kR_ringMany, kR_partFrom, kR_partMany]
theorem GTb_f {σ τ : SG} {ms : List Nat} (f : FR ms σ τ) (h : dj ms gtc = true) (j : GTb σ) : GTb τ := by
  unfold GTb
  rw [FR_dj f h (c := kR_ringFrom) (by decide), FR_dj f h (c := kR_ringSize) (by decide), FR_dj f h (c := kR_ringMany) (by decide), FR_dj f h (c := kR_partFrom) (by decide), FR_dj f h (c := kR_partMany) (by decide)]
  exact j
/-- and of segments -/
def JTb (σ : SG) : Prop := GTb σ ∧ σ kR_ringMany 0 ≤ 2047 ∧ σ kR_segments 0 ≤ 2048 ∧ (∀ r, 0 ≤ r → r ≤ σ kR_ringMany 0 → σ kR_firstSegment r ≤ σ kR_segments 0) ∧ (∀ i, 0 ≤ i → i < σ kR_segments 0 → σ kR_ringOf i < σ kR_ringMany 0)
abbrev jtc : List Nat := [kR_ringFrom, kR_ringSize, kR_ringMany, kR_partFrom, kR_partMany, kR_segments, kR_firstSegment, kR_ringOf]
theorem dj_le {ms cs ds : List Nat} (h : dj ms cs = true) (hd : (ds.all fun c => cs.contains c) = true) : dj ms ds = true := by
  refine List.all_eq_true.mpr (fun c hc => ?_)
  have := dj_c h (List.all_eq_true.mp hd c hc)
  rw [this]; rfl
theorem JTb_f {σ τ : SG} {ms : List Nat} (f : FR ms σ τ) (h : dj ms jtc = true) (j : JTb σ) : JTb τ := by
  unfold JTb at *
  rw [FR_dj f h (c := kR_ringMany) (by decide), FR_dj f h (c := kR_segments) (by decide), FR_dj f h (c := kR_firstSegment) (by decide), FR_dj f h (c := kR_ringOf) (by decide)]
  exact ⟨GTb_f f (dj_le h (by decide)) j.1, j.2⟩
end SHW
