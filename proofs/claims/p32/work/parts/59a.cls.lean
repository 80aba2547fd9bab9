section CLS
/-- frames of the class: fixed cells ms, shapes ss -/
def FC (ms ss : List Nat) (σ τ : SG) : Prop := (∀ c, (c < 8704 ∨ 42496 ≤ c) → c ∉ ms → τ c = σ c) ∧ ∀ c, 8704 ≤ c → c < 42496 → (∀ s ∈ ss, ¬ (s ≤ c / 256 ∧ c / 256 ≤ s + 3)) → τ c = σ c
theorem FC_refl (ms ss : List Nat) (σ : SG) : FC ms ss σ σ := ⟨fun _ _ _ => rfl, fun _ _ _ _ => rfl⟩
theorem FC_of {ms : List Nat} {σ τ : SG} (f : FR ms σ τ) (h : (ms.all fun c => decide (c < 8704 ∨ 42496 ≤ c)) = true) : FC ms [] σ τ := by
  refine ⟨fun c _ hc => f c hc, fun c hl hc _ => f c (fun q => ?_)⟩
  have := of_decide_eq_true (List.all_eq_true.mp h c q)
  omega
theorem FC_sg {σ τ : SG} {c : Nat} {i v : Int} (e : τ = sg σ c i v) (h : c < 8704 ∨ 42496 ≤ c) : FC [c] [] σ τ := by
  refine FC_of (FR_sg e) ?_
  show ((decide (c < 8704 ∨ 42496 ≤ c)) && true) = true
  rw [decide_eq_true h]; rfl
theorem FC_ss {σ τ : SG} {c s : Nat} {i v : Int} (e : τ = sg σ c i v) (hs : isS s) (h1 : s * 256 ≤ c) (h2 : c < s * 256 + 1024) : FC [] [s] σ τ := by
  obtain ⟨a1, a2, a3⟩ := hs
  subst e
  refine ⟨fun c' hc _ => ?_, fun c' hl hc hn => ?_⟩
  · funext j; exact sg_nc (by omega)
  · have := hn s (List.mem_singleton.mpr rfl)
    funext j; exact sg_nc (fun q => by subst q; omega)
theorem FC_le {ms ss m1 s1 : List Nat} {σ τ : SG} (a : FC m1 s1 σ τ) (h1 : (m1.all fun c => ms.contains c) = true) (h3 : ∀ s ∈ s1, s ∈ ss) : FC ms ss σ τ := by
  refine ⟨fun c h hc => a.1 c h (fun q => hc ?_), fun c l h hn => a.2 c l h (fun s hs => hn s (h3 s hs))⟩
  have := List.all_eq_true.mp h1 c q
  simpa using this
theorem FC_tr {ms ss m1 s1 m2 s2 : List Nat} {σ τ υ : SG} (a : FC m1 s1 σ τ) (b : FC m2 s2 τ υ) (h1 : (m1.all fun c => ms.contains c) = true) (h2 : (m2.all fun c => ms.contains c) = true) (h3 : ∀ s ∈ s1, s ∈ ss) (h4 : ∀ s ∈ s2, s ∈ ss) : FC ms ss σ υ := by
  have a' := FC_le (ms := ms) (ss := ss) a h1 h3
  have b' := FC_le (ms := ms) (ss := ss) b h2 h4
  exact ⟨fun c h hc => (b'.1 c h hc).trans (a'.1 c h hc), fun c l h hn => (b'.2 c l h hn).trans (a'.2 c l h hn)⟩
theorem FC_at {ms ss : List Nat} {σ τ : SG} (a : FC ms ss σ τ) {c : Nat} (h : (decide (c < 8704 ∨ 42496 ≤ c) && !(ms.contains c)) = true) (i : Int) : τ c i = σ c i := by
  rw [Bool.and_eq_true, Bool.not_eq_true'] at h
  rw [a.1 c (of_decide_eq_true h.1) (fun q => by rw [List.contains_iff_mem.mpr q] at h; cases h.2)]
def NS (ss : List Nat) (t : Nat) : Prop := ∀ u ∈ ss, isS u ∧ u ≠ t
theorem NS_0 (t : Nat) : NS [] t := fun _ h => (by cases h)
theorem NS_1 {u t : Nat} (h : isS u) (n : u ≠ t) : NS [u] t := fun v hv => by rw [List.mem_singleton.mp hv]; exact ⟨h, n⟩
theorem NS_2 {u w t : Nat} (h : isS u) (n : u ≠ t) (k : isS w) (m : w ≠ t) : NS [u, w] t := fun v hv => by
  rcases List.mem_cons.mp hv with e | e
  · rw [e]; exact ⟨h, n⟩
  · rw [List.mem_singleton.mp e]; exact ⟨k, m⟩
theorem FC_sh {ms ss : List Nat} {σ τ : SG} (f : FC ms ss σ τ) {t : Nat} (ht : isS t) (hn : NS ss t) {k : Nat} (hk : k < 1024) : τ (t * 256 + k) = σ (t * 256 + k) := by
  obtain ⟨a1, a2, a3⟩ := ht
  refine f.2 _ (by omega) (by omega) (fun u hu => ?_)
  obtain ⟨⟨b1, b2, b3⟩, b4⟩ := hn u hu
  have e : (t * 256 + k) / 256 = t + k / 256 := by omega
  rw [e]
  omega
theorem FC_plan {ms ss : List Nat} {σ τ : SG} (f : FC ms ss σ τ) {t : Nat} (ht : isS t) (hn : NS ss t) : τ (kA_plan t) = σ (kA_plan t) := by
  have := FC_sh f ht hn (k := 256) (by decide)
  rw [show t * 256 + 256 = kA_plan t by show t * 256 + 256 = _; unfold kA_plan; omega] at this
  exact this
theorem FS_plan {σ τ : SG} {s : Nat} {i v : Int} (e : τ = sg σ (kA_plan s) i v) (hs : isS s) : FC [] [s] σ τ := FC_ss e hs (by unfold kA_plan; omega) (by unfold kA_plan; omega)
theorem FC_x {ms ss : List Nat} {σ τ : SG} (f : FC ms ss σ τ) {t : Nat} (ht : isS t) (hn : NS ss t) : τ (kA_x t) = σ (kA_x t) := by
  have := FC_sh f ht hn (k := 512) (by decide)
  rw [show t * 256 + 512 = kA_x t by show t * 256 + 512 = _; unfold kA_x; omega] at this
  exact this
theorem FS_x {σ τ : SG} {s : Nat} {i v : Int} (e : τ = sg σ (kA_x s) i v) (hs : isS s) : FC [] [s] σ τ := FC_ss e hs (by unfold kA_x; omega) (by unfold kA_x; omega)
theorem FC_y {ms ss : List Nat} {σ τ : SG} (f : FC ms ss σ τ) {t : Nat} (ht : isS t) (hn : NS ss t) : τ (kA_y t) = σ (kA_y t) := by
  have := FC_sh f ht hn (k := 768) (by decide)
  rw [show t * 256 + 768 = kA_y t by show t * 256 + 768 = _; unfold kA_y; omega] at this
  exact this
theorem FS_y {σ τ : SG} {s : Nat} {i v : Int} (e : τ = sg σ (kA_y s) i v) (hs : isS s) : FC [] [s] σ τ := FC_ss e hs (by unfold kA_y; omega) (by unfold kA_y; omega)
theorem FC_plans {ms ss : List Nat} {σ τ : SG} (f : FC ms ss σ τ) {t : Nat} (ht : isS t) (hn : NS ss t) : τ (kA_plans t) = σ (kA_plans t) := by
  have := FC_sh f ht hn (k := 3) (by decide)
  rw [show t * 256 + 3 = kA_plans t by show t * 256 + 3 = _; unfold kA_plans; omega] at this
  exact this
theorem FS_plans {σ τ : SG} {s : Nat} {i v : Int} (e : τ = sg σ (kA_plans s) i v) (hs : isS s) : FC [] [s] σ τ := FC_ss e hs (by unfold kA_plans; omega) (by unfold kA_plans; omega)
theorem FC_points {ms ss : List Nat} {σ τ : SG} (f : FC ms ss σ τ) {t : Nat} (ht : isS t) (hn : NS ss t) : τ (kA_points t) = σ (kA_points t) := by
  have := FC_sh f ht hn (k := 4) (by decide)
  rw [show t * 256 + 4 = kA_points t by show t * 256 + 4 = _; unfold kA_points; omega] at this
  exact this
theorem FS_points {σ τ : SG} {s : Nat} {i v : Int} (e : τ = sg σ (kA_points s) i v) (hs : isS s) : FC [] [s] σ τ := FC_ss e hs (by unfold kA_points; omega) (by unfold kA_points; omega)
theorem ncA_plan_x (s : Nat) : ¬ kA_plan s = kA_x s := by unfold kA_plan kA_x; omega
theorem ncA_plan_y (s : Nat) : ¬ kA_plan s = kA_y s := by unfold kA_plan kA_y; omega
theorem ncA_plan_plans (s : Nat) : ¬ kA_plan s = kA_plans s := by unfold kA_plan kA_plans; omega
theorem ncA_plan_points (s : Nat) : ¬ kA_plan s = kA_points s := by unfold kA_plan kA_points; omega
theorem ncA_x_plan (s : Nat) : ¬ kA_x s = kA_plan s := by unfold kA_x kA_plan; omega
theorem ncA_x_y (s : Nat) : ¬ kA_x s = kA_y s := by unfold kA_x kA_y; omega
theorem ncA_x_plans (s : Nat) : ¬ kA_x s = kA_plans s := by unfold kA_x kA_plans; omega
theorem ncA_x_points (s : Nat) : ¬ kA_x s = kA_points s := by unfold kA_x kA_points; omega
theorem ncA_y_plan (s : Nat) : ¬ kA_y s = kA_plan s := by unfold kA_y kA_plan; omega
theorem ncA_y_x (s : Nat) : ¬ kA_y s = kA_x s := by unfold kA_y kA_x; omega
theorem ncA_y_plans (s : Nat) : ¬ kA_y s = kA_plans s := by unfold kA_y kA_plans; omega
theorem ncA_y_points (s : Nat) : ¬ kA_y s = kA_points s := by unfold kA_y kA_points; omega
theorem ncA_plans_plan (s : Nat) : ¬ kA_plans s = kA_plan s := by unfold kA_plans kA_plan; omega
theorem ncA_plans_x (s : Nat) : ¬ kA_plans s = kA_x s := by unfold kA_plans kA_x; omega
theorem ncA_plans_y (s : Nat) : ¬ kA_plans s = kA_y s := by unfold kA_plans kA_y; omega
theorem ncA_plans_points (s : Nat) : ¬ kA_plans s = kA_points s := by unfold kA_plans kA_points; omega
theorem ncA_points_plan (s : Nat) : ¬ kA_points s = kA_plan s := by unfold kA_points kA_plan; omega
theorem ncA_points_x (s : Nat) : ¬ kA_points s = kA_x s := by unfold kA_points kA_x; omega
theorem ncA_points_y (s : Nat) : ¬ kA_points s = kA_y s := by unfold kA_points kA_y; omega
theorem ncA_points_plans (s : Nat) : ¬ kA_points s = kA_plans s := by unfold kA_points kA_plans; omega
theorem ncE_ax_ay (s : Nat) : ¬ kE_ax s = kE_ay s := by unfold kE_ax kE_ay; omega
theorem ncE_ax_bx (s : Nat) : ¬ kE_ax s = kE_bx s := by unfold kE_ax kE_bx; omega
theorem ncE_ax_by (s : Nat) : ¬ kE_ax s = kE_by s := by unfold kE_ax kE_by; omega
theorem ncE_ax_mark (s : Nat) : ¬ kE_ax s = kE_mark s := by unfold kE_ax kE_mark; omega
theorem ncE_ax_size (s : Nat) : ¬ kE_ax s = kE_size s := by unfold kE_ax kE_size; omega
theorem ncE_ax_placeX (s : Nat) : ¬ kE_ax s = kE_placeX s := by unfold kE_ax kE_placeX; omega
theorem ncE_ax_placeY (s : Nat) : ¬ kE_ax s = kE_placeY s := by unfold kE_ax kE_placeY; omega
theorem ncE_ay_ax (s : Nat) : ¬ kE_ay s = kE_ax s := by unfold kE_ay kE_ax; omega
theorem ncE_ay_bx (s : Nat) : ¬ kE_ay s = kE_bx s := by unfold kE_ay kE_bx; omega
theorem ncE_ay_by (s : Nat) : ¬ kE_ay s = kE_by s := by unfold kE_ay kE_by; omega
theorem ncE_ay_mark (s : Nat) : ¬ kE_ay s = kE_mark s := by unfold kE_ay kE_mark; omega
theorem ncE_ay_size (s : Nat) : ¬ kE_ay s = kE_size s := by unfold kE_ay kE_size; omega
theorem ncE_ay_placeX (s : Nat) : ¬ kE_ay s = kE_placeX s := by unfold kE_ay kE_placeX; omega
theorem ncE_ay_placeY (s : Nat) : ¬ kE_ay s = kE_placeY s := by unfold kE_ay kE_placeY; omega
theorem ncE_bx_ax (s : Nat) : ¬ kE_bx s = kE_ax s := by unfold kE_bx kE_ax; omega
theorem ncE_bx_ay (s : Nat) : ¬ kE_bx s = kE_ay s := by unfold kE_bx kE_ay; omega
theorem ncE_bx_by (s : Nat) : ¬ kE_bx s = kE_by s := by unfold kE_bx kE_by; omega
theorem ncE_bx_mark (s : Nat) : ¬ kE_bx s = kE_mark s := by unfold kE_bx kE_mark; omega
theorem ncE_bx_size (s : Nat) : ¬ kE_bx s = kE_size s := by unfold kE_bx kE_size; omega
theorem ncE_bx_placeX (s : Nat) : ¬ kE_bx s = kE_placeX s := by unfold kE_bx kE_placeX; omega
theorem ncE_bx_placeY (s : Nat) : ¬ kE_bx s = kE_placeY s := by unfold kE_bx kE_placeY; omega
theorem ncE_by_ax (s : Nat) : ¬ kE_by s = kE_ax s := by unfold kE_by kE_ax; omega
theorem ncE_by_ay (s : Nat) : ¬ kE_by s = kE_ay s := by unfold kE_by kE_ay; omega
theorem ncE_by_bx (s : Nat) : ¬ kE_by s = kE_bx s := by unfold kE_by kE_bx; omega
theorem ncE_by_mark (s : Nat) : ¬ kE_by s = kE_mark s := by unfold kE_by kE_mark; omega
theorem ncE_by_size (s : Nat) : ¬ kE_by s = kE_size s := by unfold kE_by kE_size; omega
theorem ncE_by_placeX (s : Nat) : ¬ kE_by s = kE_placeX s := by unfold kE_by kE_placeX; omega
theorem ncE_by_placeY (s : Nat) : ¬ kE_by s = kE_placeY s := by unfold kE_by kE_placeY; omega
theorem ncE_mark_ax (s : Nat) : ¬ kE_mark s = kE_ax s := by unfold kE_mark kE_ax; omega
theorem ncE_mark_ay (s : Nat) : ¬ kE_mark s = kE_ay s := by unfold kE_mark kE_ay; omega
theorem ncE_mark_bx (s : Nat) : ¬ kE_mark s = kE_bx s := by unfold kE_mark kE_bx; omega
theorem ncE_mark_by (s : Nat) : ¬ kE_mark s = kE_by s := by unfold kE_mark kE_by; omega
theorem ncE_mark_size (s : Nat) : ¬ kE_mark s = kE_size s := by unfold kE_mark kE_size; omega
theorem ncE_mark_placeX (s : Nat) : ¬ kE_mark s = kE_placeX s := by unfold kE_mark kE_placeX; omega
theorem ncE_mark_placeY (s : Nat) : ¬ kE_mark s = kE_placeY s := by unfold kE_mark kE_placeY; omega
theorem ncE_size_ax (s : Nat) : ¬ kE_size s = kE_ax s := by unfold kE_size kE_ax; omega
theorem ncE_size_ay (s : Nat) : ¬ kE_size s = kE_ay s := by unfold kE_size kE_ay; omega
theorem ncE_size_bx (s : Nat) : ¬ kE_size s = kE_bx s := by unfold kE_size kE_bx; omega
theorem ncE_size_by (s : Nat) : ¬ kE_size s = kE_by s := by unfold kE_size kE_by; omega
theorem ncE_size_mark (s : Nat) : ¬ kE_size s = kE_mark s := by unfold kE_size kE_mark; omega
theorem ncE_size_placeX (s : Nat) : ¬ kE_size s = kE_placeX s := by unfold kE_size kE_placeX; omega
theorem ncE_size_placeY (s : Nat) : ¬ kE_size s = kE_placeY s := by unfold kE_size kE_placeY; omega
theorem ncE_placeX_ax (s : Nat) : ¬ kE_placeX s = kE_ax s := by unfold kE_placeX kE_ax; omega
theorem ncE_placeX_ay (s : Nat) : ¬ kE_placeX s = kE_ay s := by unfold kE_placeX kE_ay; omega
theorem ncE_placeX_bx (s : Nat) : ¬ kE_placeX s = kE_bx s := by unfold kE_placeX kE_bx; omega
theorem ncE_placeX_by (s : Nat) : ¬ kE_placeX s = kE_by s := by unfold kE_placeX kE_by; omega
theorem ncE_placeX_mark (s : Nat) : ¬ kE_placeX s = kE_mark s := by unfold kE_placeX kE_mark; omega
theorem ncE_placeX_size (s : Nat) : ¬ kE_placeX s = kE_size s := by unfold kE_placeX kE_size; omega
theorem ncE_placeX_placeY (s : Nat) : ¬ kE_placeX s = kE_placeY s := by unfold kE_placeX kE_placeY; omega
theorem ncE_placeY_ax (s : Nat) : ¬ kE_placeY s = kE_ax s := by unfold kE_placeY kE_ax; omega
theorem ncE_placeY_ay (s : Nat) : ¬ kE_placeY s = kE_ay s := by unfold kE_placeY kE_ay; omega
theorem ncE_placeY_bx (s : Nat) : ¬ kE_placeY s = kE_bx s := by unfold kE_placeY kE_bx; omega
theorem ncE_placeY_by (s : Nat) : ¬ kE_placeY s = kE_by s := by unfold kE_placeY kE_by; omega
theorem ncE_placeY_mark (s : Nat) : ¬ kE_placeY s = kE_mark s := by unfold kE_placeY kE_mark; omega
theorem ncE_placeY_size (s : Nat) : ¬ kE_placeY s = kE_size s := by unfold kE_placeY kE_size; omega
theorem ncE_placeY_placeX (s : Nat) : ¬ kE_placeY s = kE_placeX s := by unfold kE_placeY kE_placeX; omega
/-- a shape of the class is well formed -/
def SHa (σ : SG) (s : Nat) : Prop := (σ (kA_plans s) 0 = 0 ∧ σ (kA_points s) 0 = 0) ∨ (2 ≤ σ (kA_plans s) 0 ∧ ∃ m, FL (σ (kA_plan s)) m 0 (σ (kA_plans s) 0) (σ (kA_points s) 0))
theorem SHa_f {ms ss : List Nat} {σ τ : SG} {s : Nat} (f : FC ms ss σ τ) (hs : isS s) (hn : NS ss s) (h : SHa σ s) : SHa τ s := by
  unfold SHa
  rw [FC_plan f hs hn, FC_plans f hs hn, FC_points f hs hn]; exact h
/-- all slots -/
def SHA (σ : SG) : Prop := ∀ s, isS s → s ≠ 162 → SHa σ s
theorem SHA_f {ms : List Nat} {σ τ : SG} (f : FC ms [] σ τ) (h : SHA σ) : SHA τ := fun s hs n => SHa_f f hs (NS_0 _) (h s hs n)
theorem SHA_1 {ms : List Nat} {σ τ : SG} {u : Nat} (f : FC ms [u] σ τ) (hu : isS u) (h : SHA σ) (k : u ≠ 162 → SHa τ u) : SHA τ := fun s hs n => by
  by_cases z : u = s
  · rw [← z]; exact k (by omega)
  · exact SHa_f f hs (NS_1 hu z) (h s hs n)
theorem SHA_2 {ms : List Nat} {σ τ : SG} {u : Nat} (f : FC ms [162, u] σ τ) (hu : isS u) (h : SHA σ) (k : SHa τ u) : SHA τ := fun s hs n => by
  by_cases z : u = s
  · rw [← z]; exact k
  · exact SHa_f f hs (NS_2 (by decide) (by omega) hu z) (h s hs n)
/-- a walk over a shape stands at p in the plan, at pt in the points -/
def FLa (σ : SG) (s : Nat) (p pt : Int) : Prop := (∃ m, FL (σ (kA_plan s)) m p (σ (kA_plans s) 0) (σ (kA_points s) 0 - pt)) ∧ 0 ≤ p ∧ 0 ≤ pt
theorem FLa_f {ms ss : List Nat} {σ τ : SG} {s : Nat} {p pt : Int} (f : FC ms ss σ τ) (hs : isS s) (hn : NS ss s) (h : FLa σ s p pt) : FLa τ s p pt := by
  unfold FLa
  rw [FC_plan f hs hn, FC_plans f hs hn, FC_points f hs hn]; exact h
theorem FLa_0 {σ : SG} {s : Nat} (h : SHa σ s) : FLa σ s 0 0 := by
  refine ⟨?_, Int.le_refl _, Int.le_refl _⟩
  rcases h with ⟨a, b⟩ | ⟨_, m, hm⟩
  · exact ⟨0, by rw [a, b]; exact ⟨rfl, rfl⟩⟩
  · exact ⟨m, by rw [Int.sub_zero]; exact hm⟩
theorem FLa_le {σ : SG} {s : Nat} {p pt : Int} (h : FLa σ s p pt) : p ≤ σ (kA_plans s) 0 ∧ pt ≤ σ (kA_points s) 0 ∧ 0 ≤ p ∧ 0 ≤ pt := by
  obtain ⟨⟨m, hm⟩, a, b⟩ := h
  have := FL_le hm
  omega
/-- an entry of the plan stands at p, and all of it is there -/
def ENa (σ : SG) (s : Nat) (p : Int) : Prop := eO (σ (kA_plan s)) p ∧ 0 ≤ p ∧ p + eL (σ (kA_plan s)) p ≤ σ (kA_plans s) 0 ∧ eP (σ (kA_plan s)) p ≤ 2048
theorem ENa_f {ms ss : List Nat} {σ τ : SG} {s : Nat} {p : Int} (f : FC ms ss σ τ) (hs : isS s) (hn : NS ss s) (h : ENa σ s p) : ENa τ s p := by
  unfold ENa
  rw [FC_plan f hs hn, FC_plans f hs hn]; exact h
theorem FLa_hd {σ : SG} {s : Nat} {p pt : Int} (hσ : II σ) (hs : isS s) (h : FLa σ s p pt) (hp : p < σ (kA_plans s) 0) : ENa σ s p ∧ FLa σ s (p + eL (σ (kA_plan s)) p) (pt + eP (σ (kA_plan s)) p) ∧ 2 ≤ eL (σ (kA_plan s)) p ∧ p + eL (σ (kA_plan s)) p ≤ σ (kA_plans s) 0 ∧ 0 ≤ eP (σ (kA_plan s)) p ∧ pt + eP (σ (kA_plan s)) p ≤ σ (kA_points s) 0 ∧ (1 ≤ σ (kA_plan s) p ∧ σ (kA_plan s) p ≤ 7 ∧ 0 ≤ σ (kA_plan s) (p + 1) ∧ σ (kA_plan s) (p + 1) ≤ 2048) := by
  obtain ⟨⟨m, hm⟩, a, b⟩ := h
  obtain ⟨m', rfl, ho, ht, h2, h3, h4, h5⟩ := FL_hd hm hp
  have h6 := (FL_le ht).1
  have q := iiA_points hσ hs 0
  refine ⟨⟨ho, a, by omega, by omega⟩, ⟨⟨m', ?_⟩, by omega, by omega⟩, h2, by omega, h4, by omega, ho.1, ho.2.1, ho.2.2.1.1, ho.2.2.1.2⟩
  rw [show σ (kA_points s) 0 - (pt + eP (σ (kA_plan s)) p) = σ (kA_points s) 0 - pt - eP (σ (kA_plan s)) p by omega]
  exact ht
/-- rows of points of an entry, and the length of each -/
def rN (pl : Int → Int) (p : Int) : Int := if pl p = 3 then pl (p + 1) else if pl p < 3 then 1 else 0
def rL (pl : Int → Int) (p r : Int) : Int := if pl p = 3 then pl (p + 2 + r) else pl (p + 1)
def rS (pl : Int → Int) (p r : Int) : Int := if pl p = 3 then su_ pl (p + 2) r.toNat else if r ≤ 0 then 0 else pl (p + 1)
theorem rS_0 (pl : Int → Int) (p : Int) : rS pl p 0 = 0 := by
  unfold rS; split
  · rfl
  · rfl
theorem rS_go {pl : Int → Int} {p r : Int} (ho : eO pl p) (r0 : 0 ≤ r) (h : r < rN pl p) : rS pl p (r + 1) = rS pl p r + rL pl p r ∧ 0 ≤ rL pl p r ∧ rS pl p (r + 1) ≤ eP pl p ∧ 0 ≤ rS pl p r ∧ pl p ≤ 3 ∧ p + 2 + r ≤ p + eL pl p ∧ (pl p = 3 → p + 2 + r + 1 ≤ p + eL pl p) ∧ (¬ pl p = 3 → r = 0) := by
  obtain ⟨o1, o2, o3, o4, o5⟩ := ho
  unfold rS rN rL eP eL at *
  by_cases q : pl p = 3
  · simp only [if_pos q, show ¬ pl p < 3 by omega, if_false] at *
    have nn : ∀ i, p + 2 ≤ i → i < p + 2 + ((pl (p + 1)).toNat : Int) → 0 ≤ pl i := fun i a b => by
      have := o5 q (i - (p + 2)) (by omega) (by omega)
      rw [show p + 2 + (i - (p + 2)) = i by omega] at this
      exact this
    have s0 := su_nn (pl := pl) (p := p + 2) (n := r.toNat) (fun i a b => nn i a (by omega))
    have s1 := su_le (pl := pl) (p := p + 2) (m := (r + 1).toNat) (n := (pl (p + 1)).toNat) (by omega) nn
    have s2 := su_i (pl := pl) (p := p + 2) r0
    exact ⟨s2, o5 q r r0 h, s1, s0, by omega, by omega, fun _ => by omega, fun z => absurd q z⟩
  · simp only [if_neg q] at *
    by_cases z : pl p < 3
    · simp only [if_pos z] at *
      have e : r = 0 := by omega
      subst e
      refine ⟨?_, o3.1, ?_, ?_, by omega, by omega, fun y => absurd y q, fun _ => rfl⟩
      · rw [if_neg (by omega), if_pos (by omega)]; omega
      · rw [if_neg (by omega)]; exact Int.le_refl _
      · rw [if_pos (by omega)]; exact Int.le_refl _
    · simp only [if_neg z] at *
      omega
theorem rS_end {pl : Int → Int} {p : Int} (ho : eO pl p) : rS pl p (rN pl p) = eP pl p ∧ 0 ≤ rN pl p ∧ rN pl p ≤ 2048 ∧ rN pl p + 1 ≤ eL pl p := by
  obtain ⟨o1, o2, o3, o4, o5⟩ := ho
  unfold rS rN eP eL
  by_cases q : pl p = 3
  · simp only [if_pos q, show ¬ pl p < 3 by omega, if_false]; exact ⟨trivial, by omega, by omega, by omega⟩
  · simp only [if_neg q]
    by_cases z : pl p < 3
    · simp only [if_pos z]; exact ⟨by rw [if_neg (by omega)], by omega, by omega, by omega⟩
    · simp only [if_neg z]; exact ⟨by rw [if_pos (by omega)], by omega, by omega, by omega⟩
theorem v_clearA {σ : SG} {this_0 : Nat} (hσ : II σ) (hs : isS this_0) : wp_ (fA_clear σ this_0) (fun r => II r ∧ FC [] [this_0] σ r ∧ r (kA_plans this_0) 0 = 0 ∧ r (kA_points this_0) 0 = 0) := by
  unfold fA_clear
  refine wp_wfI hσ (bA_plans hs) (by omega) (fun τ hτ e1 => ?_)
  refine wp_wfI hτ (bA_points hs) (by omega) (fun υ hυ e2 => wp_some ⟨hυ, ?_, ?_, ?_⟩)
  · exact FC_tr (FS_plans e1 hs) (FS_points e2 hs) (by decide) (by decide) (by simp) (by simp)
  · rw [e2, sg_nc (ncA_plans_points _), e1, sg_at]
  · rw [e2, sg_at]
theorem v_addShape {σ : SG} {this_0 : Nat} {kind_0 parts_0 : Int} (hσ : II σ) (hs : isS this_0) : wp_ (fA_addShape σ this_0 kind_0 parts_0) (fun r => II r.2 ∧ FC [] [this_0] σ r.2 ∧ (r.1 = true ↔ σ (kA_plans this_0) 0 ≤ 2046) ∧ (r.1 = false → r.2 = σ) ∧ (r.1 = true → r.2 (kA_plans this_0) 0 = σ (kA_plans this_0) 0 + 2 ∧ r.2 (kA_plan this_0) (σ (kA_plans this_0) 0) = kind_0 ∧ r.2 (kA_plan this_0) (σ (kA_plans this_0) 0 + 1) = parts_0 ∧ (∀ i, i ≠ σ (kA_plans this_0) 0 → i ≠ σ (kA_plans this_0) 0 + 1 → r.2 (kA_plan this_0) i = σ (kA_plan this_0) i)) ∧ r.2 (kA_points this_0) = σ (kA_points this_0) ∧ r.2 (kA_x this_0) = σ (kA_x this_0) ∧ r.2 (kA_y this_0) = σ (kA_y this_0)) := by
  unfold fA_addShape
  have b := iiA_plans hσ hs 0
  rw [w32_of (x := σ (kA_plans this_0) 0) (by omega) (by omega)]
  refine wp_if (fun h => ?_) (fun h => ?_)
  · exact wp_some ⟨hσ, FC_refl _ _ _, ⟨(fun q => by cases q), fun q => by omega⟩, fun _ => rfl, (fun q => by cases q), rfl, rfl, rfl⟩
  · refine wp_waN hσ (bA_plan hs) (by omega) (by omega) (fun τ hτ e1 => ?_)
    have p1 : τ (kA_plans this_0) 0 = σ (kA_plans this_0) 0 := by rw [e1, sg_nc (ncA_plans_plan _)]
    rw [p1, w32_of (x := σ (kA_plans this_0) 0 + 1) (by omega) (by omega)]
    refine wp_waN hτ (bA_plan hs) (by omega) (by omega) (fun υ hυ e2 => ?_)
    have p2 : υ (kA_plans this_0) 0 = σ (kA_plans this_0) 0 := by rw [e2, sg_nc (ncA_plans_plan _), p1]
    rw [p2]
    refine wp_wfI hυ (bA_plans hs) (by omega) (fun φ hφ e3 => wp_some ⟨hφ, ?_, ⟨fun _ => by omega, fun _ => rfl⟩, (fun q => by cases q), fun _ => ⟨?_, ?_, ?_, fun i i1 i2 => ?_⟩, ?_, ?_, ?_⟩)
    · exact FC_tr (FC_tr (ms := []) (ss := [this_0]) (FS_plan e1 hs) (FS_plan e2 hs) (by decide) (by decide) (by simp) (by simp)) (FS_plans e3 hs) (by decide) (by decide) (by simp) (by simp)
    · dsimp only; rw [e3, sg_at]
    · dsimp only; rw [e3, sg_nc (ncA_plan_plans _), e2, sg_ni (by omega), e1, sg_at]
    · dsimp only; rw [e3, sg_nc (ncA_plan_plans _), e2, sg_at]
    · dsimp only; rw [e3, sg_nc (ncA_plan_plans _), e2, sg_ni i2, e1, sg_ni i1]
    · funext j; dsimp only; rw [e3, sg_nc (ncA_points_plans _), e2, sg_nc (ncA_points_plan _), e1, sg_nc (ncA_points_plan _)]
    · funext j; dsimp only; rw [e3, sg_nc (ncA_x_plans _), e2, sg_nc (ncA_x_plan _), e1, sg_nc (ncA_x_plan _)]
    · funext j; dsimp only; rw [e3, sg_nc (ncA_y_plans _), e2, sg_nc (ncA_y_plan _), e1, sg_nc (ncA_y_plan _)]
theorem v_addRing {σ : SG} {this_0 : Nat} {length_0 : Int} (hσ : II σ) (hs : isS this_0) : wp_ (fA_addRing σ this_0 length_0) (fun r => II r.2 ∧ FC [] [this_0] σ r.2 ∧ (r.1 = true ↔ σ (kA_plans this_0) 0 ≤ 2047) ∧ (r.1 = false → r.2 = σ) ∧ (r.1 = true → r.2 (kA_plans this_0) 0 = σ (kA_plans this_0) 0 + 1 ∧ r.2 (kA_plan this_0) (σ (kA_plans this_0) 0) = length_0 ∧ (∀ i, i ≠ σ (kA_plans this_0) 0 → r.2 (kA_plan this_0) i = σ (kA_plan this_0) i)) ∧ r.2 (kA_points this_0) = σ (kA_points this_0) ∧ r.2 (kA_x this_0) = σ (kA_x this_0) ∧ r.2 (kA_y this_0) = σ (kA_y this_0)) := by
  unfold fA_addRing
  have b := iiA_plans hσ hs 0
  rw [w32_of (x := σ (kA_plans this_0) 0) (by omega) (by omega)]
  refine wp_if (fun h => ?_) (fun h => ?_)
  · exact wp_some ⟨hσ, FC_refl _ _ _, ⟨(fun q => by cases q), fun q => by omega⟩, fun _ => rfl, (fun q => by cases q), rfl, rfl, rfl⟩
  · refine wp_waN hσ (bA_plan hs) (by omega) (by omega) (fun τ hτ e1 => ?_)
    have p1 : τ (kA_plans this_0) 0 = σ (kA_plans this_0) 0 := by rw [e1, sg_nc (ncA_plans_plan _)]
    rw [p1]
    refine wp_wfI hτ (bA_plans hs) (by omega) (fun φ hφ e3 => wp_some ⟨hφ, ?_, ⟨fun _ => by omega, fun _ => rfl⟩, (fun q => by cases q), fun _ => ⟨?_, ?_, fun i i1 => ?_⟩, ?_, ?_, ?_⟩)
    · exact FC_tr (FS_plan e1 hs) (FS_plans e3 hs) (by decide) (by decide) (by simp) (by simp)
    · dsimp only; rw [e3, sg_at]
    · dsimp only; rw [e3, sg_nc (ncA_plan_plans _), e1, sg_at]
    · dsimp only; rw [e3, sg_nc (ncA_plan_plans _), e1, sg_ni i1]
    · funext j; dsimp only; rw [e3, sg_nc (ncA_points_plans _), e1, sg_nc (ncA_points_plan _)]
    · funext j; dsimp only; rw [e3, sg_nc (ncA_x_plans _), e1, sg_nc (ncA_x_plan _)]
    · funext j; dsimp only; rw [e3, sg_nc (ncA_y_plans _), e1, sg_nc (ncA_y_plan _)]
theorem v_addPoint {σ : SG} {this_0 : Nat} {px_0 py_0 : Int} (hσ : II σ) (hs : isS this_0) (qx : -1000000000 ≤ px_0 ∧ px_0 ≤ 1000000000) (qy : -1000000000 ≤ py_0 ∧ py_0 ≤ 1000000000) : wp_ (fA_addPoint σ this_0 px_0 py_0) (fun r => II r.2 ∧ FC [] [this_0] σ r.2 ∧ (r.1 = true ↔ σ (kA_points this_0) 0 ≤ 2047) ∧ (r.1 = false → r.2 = σ) ∧ (r.1 = true → r.2 (kA_points this_0) 0 = σ (kA_points this_0) 0 + 1 ∧ r.2 (kA_x this_0) (σ (kA_points this_0) 0) = px_0 ∧ r.2 (kA_y this_0) (σ (kA_points this_0) 0) = py_0 ∧ (∀ i, i ≠ σ (kA_points this_0) 0 → r.2 (kA_x this_0) i = σ (kA_x this_0) i ∧ r.2 (kA_y this_0) i = σ (kA_y this_0) i)) ∧ r.2 (kA_plans this_0) = σ (kA_plans this_0) ∧ r.2 (kA_plan this_0) = σ (kA_plan this_0)) := by
  unfold fA_addPoint
  have b := iiA_points hσ hs 0
  rw [w32_of (x := σ (kA_points this_0) 0) (by omega) (by omega)]
  refine wp_if (fun h => ?_) (fun h => ?_)
  · exact wp_some ⟨hσ, FC_refl _ _ _, ⟨(fun q => by cases q), fun q => by omega⟩, fun _ => rfl, (fun q => by cases q), rfl, rfl⟩
  · refine wp_waI hσ (bA_x hs) (by omega) (by omega) qx (fun τ hτ e1 => ?_)
    have p1 : τ (kA_points this_0) 0 = σ (kA_points this_0) 0 := by rw [e1, sg_nc (ncA_points_x _)]
    rw [p1, w32_of (x := σ (kA_points this_0) 0) (by omega) (by omega)]
    refine wp_waI hτ (bA_y hs) (by omega) (by omega) qy (fun υ hυ e2 => ?_)
    have p2 : υ (kA_points this_0) 0 = σ (kA_points this_0) 0 := by rw [e2, sg_nc (ncA_points_y _), p1]
    rw [p2]
    refine wp_wfI hυ (bA_points hs) (by omega) (fun φ hφ e3 => wp_some ⟨hφ, ?_, ⟨fun _ => by omega, fun _ => rfl⟩, (fun q => by cases q), fun _ => ⟨?_, ?_, ?_, fun i i1 => ⟨?_, ?_⟩⟩, ?_, ?_⟩)
    · exact FC_tr (FC_tr (ms := []) (ss := [this_0]) (FS_x e1 hs) (FS_y e2 hs) (by decide) (by decide) (by simp) (by simp)) (FS_points e3 hs) (by decide) (by decide) (by simp) (by simp)
    · dsimp only; rw [e3, sg_at]
    · dsimp only; rw [e3, sg_nc (ncA_x_points _), e2, sg_nc (ncA_x_y _), e1, sg_at]
    · dsimp only; rw [e3, sg_nc (ncA_y_points _), e2, sg_at]
    · dsimp only; rw [e3, sg_nc (ncA_x_points _), e2, sg_nc (ncA_x_y _), e1, sg_ni i1]
    · dsimp only; rw [e3, sg_nc (ncA_y_points _), e2, sg_ni i1, e1, sg_nc (ncA_y_x _)]
    · funext j; dsimp only; rw [e3, sg_nc (ncA_plans_points _), e2, sg_nc (ncA_plans_y _), e1, sg_nc (ncA_plans_x _)]
    · funext j; dsimp only; rw [e3, sg_nc (ncA_plan_points _), e2, sg_nc (ncA_plan_y _), e1, sg_nc (ncA_plan_x _)]
theorem gsz_b {g : Nat} (h : isE g) : 256 ≤ ((gsz g : Nat) : Int) ∧ ((gsz g : Nat) : Int) ≤ 2048 := by rcases h with rfl | rfl | rfl <;> decide
theorem ltS {s c : Nat} (hs : isS s) (hc : 42496 ≤ c) : ¬ kA_x s = c ∧ ¬ kA_y s = c := by
  obtain ⟨a, b, d⟩ := hs
  exact ⟨by unfold kA_x; omega, by unfold kA_y; omega⟩
theorem v_addE {σ : SG} {this_0 : Nat} {shape_0 : Nat} {from_0 : Int} {to_0 : Int} {itsMark_0 : Int} (hσ : II σ) (hE : isE this_0) (hs : isS shape_0) (wf : 0 ≤ from_0 ∧ from_0 ≤ 2047) (wt : 0 ≤ to_0 ∧ to_0 ≤ 2047) (wm : BD (bnd (kE_mark this_0)) itsMark_0) : wp_ (fE_add σ this_0 shape_0 from_0 to_0 itsMark_0) (fun r => II r.2 ∧ FC [(kE_ax this_0), (kE_ay this_0), (kE_bx this_0), (kE_by this_0), (kE_mark this_0), (kE_size this_0)] [] σ r.2 ∧ (σ (kE_size this_0) 0 ≤ ((gsz this_0 : Nat) : Int) → r.2 (kE_size this_0) 0 ≤ ((gsz this_0 : Nat) : Int)) ∧ (r.1 = true ↔ σ (kE_size this_0) 0 < ((gsz this_0 : Nat) : Int)) ∧ (r.1 = false → r.2 = σ) ∧ (r.1 = true → r.2 (kE_size this_0) 0 = σ (kE_size this_0) 0 + 1 ∧ r.2 (kE_mark this_0) (σ (kE_size this_0) 0) = itsMark_0 ∧ (r.2 (kE_ax this_0) (σ (kE_size this_0) 0) = σ (kA_x shape_0) from_0 ∧ r.2 (kE_ay this_0) (σ (kE_size this_0) 0) = σ (kA_y shape_0) from_0 ∧ r.2 (kE_bx this_0) (σ (kE_size this_0) 0) = σ (kA_x shape_0) to_0 ∧ r.2 (kE_by this_0) (σ (kE_size this_0) 0) = σ (kA_y shape_0) to_0) ∧ ∀ i, i ≠ σ (kE_size this_0) 0 → r.2 (kE_mark this_0) i = σ (kE_mark this_0) i ∧ r.2 (kE_ax this_0) i = σ (kE_ax this_0) i ∧ r.2 (kE_ay this_0) i = σ (kE_ay this_0) i ∧ r.2 (kE_bx this_0) i = σ (kE_bx this_0) i ∧ r.2 (kE_by this_0) i = σ (kE_by this_0) i)) := by
  unfold fE_add
  have gz := gsz_b hE
  have b := iiE_size hσ hE 0
  have big : 42496 ≤ kE_ax this_0 ∧ 42496 ≤ kE_ay this_0 ∧ 42496 ≤ kE_bx this_0 ∧ 42496 ≤ kE_by this_0 ∧ 42496 ≤ kE_mark this_0 ∧ 42496 ≤ kE_size this_0 := by rcases hE with rfl | rfl | rfl <;> decide
  obtain ⟨g1, g2, g3, g4, g5, g6⟩ := big
  rw [w32_of (x := ((gsz this_0 : Nat) : Int)) (by omega) (by omega), w32_of (x := σ (kE_size this_0) 0) (by omega) (by omega), w32_of (x := from_0) (by omega) (by omega), w32_of (x := to_0) (by omega) (by omega)]
  refine wp_if (fun h => ?_) (fun h => ?_)
  · exact wp_some ⟨hσ, FC_refl _ _ _, fun z => z, ⟨(fun q => by cases q), fun q => by omega⟩, fun _ => rfl, (fun q => by cases q)⟩
  · refine wp_rd (by omega) (by omega) ?_
    refine wp_waI hσ (bE_ax hE) (by omega) (by omega) (iiA_x hσ hs _) (fun t1 h1 e1 => ?_)
    refine wp_rd (by omega) (by omega) ?_
    have n1 : t1 (kE_size this_0) 0 = σ (kE_size this_0) 0 := by rw [e1, sg_nc (ncE_size_ax _)]
    have y1 : t1 (kA_y shape_0) from_0 = σ (kA_y shape_0) from_0 := by rw [e1, sg_nc (ltS hs g1).2]
    rw [y1, n1, w32_of (x := σ (kE_size this_0) 0) (by omega) (by omega)]
    refine wp_waI h1 (bE_ay hE) (by omega) (by omega) (iiA_y hσ hs _) (fun t2 h2 e2 => ?_)
    refine wp_rd (by omega) (by omega) ?_
    have n2 : t2 (kE_size this_0) 0 = σ (kE_size this_0) 0 := by rw [e2, sg_nc (ncE_size_ay _), n1]
    have x2 : t2 (kA_x shape_0) to_0 = σ (kA_x shape_0) to_0 := by rw [e2, sg_nc (ltS hs g2).1, e1, sg_nc (ltS hs g1).1]
    rw [x2, n2, w32_of (x := σ (kE_size this_0) 0) (by omega) (by omega)]
    refine wp_waI h2 (bE_bx hE) (by omega) (by omega) (iiA_x hσ hs _) (fun t3 h3 e3 => ?_)
    refine wp_rd (by omega) (by omega) ?_
    have n3 : t3 (kE_size this_0) 0 = σ (kE_size this_0) 0 := by rw [e3, sg_nc (ncE_size_bx _), n2]
    have y3 : t3 (kA_y shape_0) to_0 = σ (kA_y shape_0) to_0 := by rw [e3, sg_nc (ltS hs g3).2, e2, sg_nc (ltS hs g2).2, e1, sg_nc (ltS hs g1).2]
    rw [y3, n3, w32_of (x := σ (kE_size this_0) 0) (by omega) (by omega)]
    refine wp_waI h3 (bE_by hE) (by omega) (by omega) (iiA_y hσ hs _) (fun t4 h4 e4 => ?_)
    have n4 : t4 (kE_size this_0) 0 = σ (kE_size this_0) 0 := by rw [e4, sg_nc (ncE_size_by _), n3]
    rw [n4, w32_of (x := σ (kE_size this_0) 0) (by omega) (by omega)]
    refine wp_wa (by omega) (by omega) ?_
    have h5 : II (sg t4 (kE_mark this_0) (σ (kE_size this_0) 0) itsMark_0) := II_sg h4 wm
    generalize e5 : sg t4 (kE_mark this_0) (σ (kE_size this_0) 0) itsMark_0 = t5 at h5 ⊢
    replace e5 := e5.symm
    have n5 : t5 (kE_size this_0) 0 = σ (kE_size this_0) 0 := by rw [e5, sg_nc (ncE_size_mark _), n4]
    rw [n5]
    refine wp_wfI h5 (bE_size hE) (by omega) (fun t6 h6 e6 => wp_some ⟨h6, ?_, fun _ => by dsimp only; rw [e6, sg_at]; omega, ⟨fun _ => by omega, fun _ => rfl⟩, (fun q => by cases q), fun _ => ⟨?_, ?_, ⟨?_, ?_, ?_, ?_⟩, fun i i1 => ⟨?_, ?_, ?_, ?_, ?_⟩⟩⟩)
    · have f := FC_tr (ms := [kE_ax this_0, kE_ay this_0, kE_bx this_0, kE_by this_0, kE_mark this_0, kE_size this_0]) (ss := []) (FC_sg e1 (Or.inr g1)) (FC_sg e2 (Or.inr g2)) (by simp) (by simp) (by simp) (by simp)
      have f := FC_tr (ms := [kE_ax this_0, kE_ay this_0, kE_bx this_0, kE_by this_0, kE_mark this_0, kE_size this_0]) (ss := []) f (FC_sg e3 (Or.inr g3)) (by simp) (by simp) (by simp) (by simp)
      have f := FC_tr (ms := [kE_ax this_0, kE_ay this_0, kE_bx this_0, kE_by this_0, kE_mark this_0, kE_size this_0]) (ss := []) f (FC_sg e4 (Or.inr g4)) (by simp) (by simp) (by simp) (by simp)
      have f := FC_tr (ms := [kE_ax this_0, kE_ay this_0, kE_bx this_0, kE_by this_0, kE_mark this_0, kE_size this_0]) (ss := []) f (FC_sg e5 (Or.inr g5)) (by simp) (by simp) (by simp) (by simp)
      exact FC_tr f (FC_sg e6 (Or.inr g6)) (by simp) (by simp) (by simp) (by simp)
    · dsimp only; rw [e6, sg_at]
    · dsimp only; rw [e6, sg_nc (ncE_mark_size _), e5, sg_at]
    · dsimp only; rw [e6, sg_nc (ncE_ax_size _), e5, sg_nc (ncE_ax_mark _), e4, sg_nc (ncE_ax_by _), e3, sg_nc (ncE_ax_bx _), e2, sg_nc (ncE_ax_ay _), e1, sg_at]
    · dsimp only; rw [e6, sg_nc (ncE_ay_size _), e5, sg_nc (ncE_ay_mark _), e4, sg_nc (ncE_ay_by _), e3, sg_nc (ncE_ay_bx _), e2, sg_at]
    · dsimp only; rw [e6, sg_nc (ncE_bx_size _), e5, sg_nc (ncE_bx_mark _), e4, sg_nc (ncE_bx_by _), e3, sg_at]
    · dsimp only; rw [e6, sg_nc (ncE_by_size _), e5, sg_nc (ncE_by_mark _), e4, sg_at]
    · dsimp only; rw [e6, sg_nc (ncE_mark_size _), e5, sg_ni i1, e4, sg_nc (ncE_mark_by _), e3, sg_nc (ncE_mark_bx _), e2, sg_nc (ncE_mark_ay _), e1, sg_nc (ncE_mark_ax _)]
    · dsimp only; rw [e6, sg_nc (ncE_ax_size _), e5, sg_nc (ncE_ax_mark _), e4, sg_nc (ncE_ax_by _), e3, sg_nc (ncE_ax_bx _), e2, sg_nc (ncE_ax_ay _), e1, sg_ni i1]
    · dsimp only; rw [e6, sg_nc (ncE_ay_size _), e5, sg_nc (ncE_ay_mark _), e4, sg_nc (ncE_ay_by _), e3, sg_nc (ncE_ay_bx _), e2, sg_ni i1, e1, sg_nc (ncE_ay_ax _)]
    · dsimp only; rw [e6, sg_nc (ncE_bx_size _), e5, sg_nc (ncE_bx_mark _), e4, sg_nc (ncE_bx_by _), e3, sg_ni i1, e2, sg_nc (ncE_bx_ay _), e1, sg_nc (ncE_bx_ax _)]
    · dsimp only; rw [e6, sg_nc (ncE_by_size _), e5, sg_nc (ncE_by_mark _), e4, sg_ni i1, e3, sg_nc (ncE_by_bx _), e2, sg_nc (ncE_by_ay _), e1, sg_nc (ncE_by_ax _)]
theorem II_cpy {σ : SG} {ca cb : Nat} {p q n : Int} (h : II σ) (hb : bnd ca = bnd cb) : II (cpy σ ca p cb q n) := by
  intro c i
  unfold cpy
  by_cases z : c = cb ∧ q ≤ i ∧ i < q + n
  · rw [if_pos z, z.1, ← hb]; exact h ca _
  · rw [if_neg z]; exact h c i
theorem cpy_o {σ : SG} {ca cb c : Nat} {p q n : Int} (h : c ≠ cb) : cpy σ ca p cb q n c = σ c := by
  funext i; unfold cpy; rw [if_neg (fun z => h z.1)]
theorem wp_cpI {β : Type} {σ : SG} {ca cb : Nat} {Na p Nb q n : Int} {k : SG → Option β} {Q : β → Prop} (h : II σ) (hb : bnd ca = bnd cb) (z : 0 ≤ p ∧ 0 ≤ q ∧ 0 ≤ n ∧ p + n ≤ Na ∧ q + n ≤ Nb) (hk : ∀ τ, II τ → (∀ c, c ≠ cb → τ c = σ c) → τ = cpy σ ca p cb q n → wp_ (k τ) Q) : wp_ (cp_ σ ca Na p cb Nb q n k) Q := wp_cp z (hk _ (II_cpy h hb) (fun _ hc => cpy_o hc) rfl)
theorem II_nEi {σ : SG} (h : II σ) : II (nEi σ kT_matrix) := by
  intro c i
  unfold nEi
  by_cases z : c = kT_matrix ∧ 0 ≤ i ∧ i < 9
  · rw [if_pos z, z.1, b_kT_matrix]
    show -1 ≤ (if i = 8 then (2 : Int) else -1) ∧ (if i = 8 then (2 : Int) else -1) ≤ 2
    split <;> omega
  · rw [if_neg z]; exact h c i
theorem FC_nEi (σ : SG) : FC [kT_matrix] [] σ (nEi σ kT_matrix) := by
  have e : ∀ c, c ≠ kT_matrix → nEi σ kT_matrix c = σ c := fun c hc => by funext i; unfold nEi; rw [if_neg (fun z => hc z.1)]
  exact ⟨fun c _ hc => e c (fun q => hc (by rw [q]; exact List.mem_singleton.mpr rfl)), fun c _ hc _ => e c (by intro q; rw [q] at hc; exact absurd hc (by decide))⟩
theorem FC_own {σ τ : SG} {c s : Nat} (e : ∀ c', c' ≠ c → τ c' = σ c') (hs : isS s) (h1 : s * 256 ≤ c) (h2 : c < s * 256 + 1024) : FC [] [s] σ τ := by
  obtain ⟨a1, a2, a3⟩ := hs
  refine ⟨fun c' hc _ => e c' (by omega), fun c' hl hc hn => e c' (fun q => ?_)⟩
  have := hn s (List.mem_singleton.mpr rfl)
  subst q; omega
theorem FC_fix {σ τ : SG} {c : Nat} (e : ∀ c', c' ≠ c → τ c' = σ c') (h : c < 8704 ∨ 42496 ≤ c) : FC [c] [] σ τ := by
  refine ⟨fun c' _ hc => e c' (fun q => hc (by rw [q]; exact List.mem_singleton.mpr rfl)), fun c' hl hc _ => e c' (by omega)⟩
theorem v_become {σ : SG} {this_0 : Nat} {other_0 : Nat} (hσ : II σ) (hs : isS this_0) (ho : isS other_0) : wp_ (fA_become σ this_0 other_0) (fun r => II r ∧ FC [] [this_0] σ r ∧ r (kA_plans this_0) 0 = σ (kA_plans other_0) 0 ∧ r (kA_points this_0) 0 = σ (kA_points other_0) 0 ∧ (∀ i, 0 ≤ i → i < σ (kA_plans other_0) 0 → r (kA_plan this_0) i = σ (kA_plan other_0) i) ∧ (∀ i, 0 ≤ i → i < σ (kA_points other_0) 0 → r (kA_x this_0) i = σ (kA_x other_0) i ∧ r (kA_y this_0) i = σ (kA_y other_0) i) ∧ (SHa σ other_0 → SHa r this_0)) := by
  unfold fA_become
  have b1 := iiA_plans hσ ho 0
  have b2 := iiA_points hσ ho 0
  refine wp_wfI hσ (bA_plans hs) b1 (fun t1 h1 e1 => ?_)
  have hp1 : t1 (kA_points other_0) 0 = σ (kA_points other_0) 0 := by rw [e1, sg_nc (by unfold kA_points kA_plans; omega)]
  rw [hp1]
  refine wp_wfI h1 (bA_points hs) b2 (fun t2 h2 e2 => ?_)
  have n2 : t2 (kA_plans this_0) 0 = σ (kA_plans other_0) 0 := by rw [e2, sg_nc (ncA_plans_points _), e1, sg_at]
  have p2 : t2 (kA_points this_0) 0 = σ (kA_points other_0) 0 := by rw [e2, sg_at]
  have q2 : ∀ (c : Nat) (i : Int), c ≠ kA_plans this_0 → c ≠ kA_points this_0 → t2 c i = σ c i := fun c i z1 z2 => by rw [e2, sg_nc z2, e1, sg_nc z1]
  rw [n2, w32_of (x := σ (kA_plans other_0) 0) (by omega) (by omega)]
  refine wp_cp (by omega) ?_
  generalize e3 : cpy t2 (kA_plan other_0) 0 (kA_plan this_0) 0 (σ (kA_plans other_0) 0) = t3
  have h3 : II t3 := by rw [← e3]; exact II_cpy h2 (by rw [bA_plan hs, bA_plan ho])
  have o3 : ∀ c, c ≠ kA_plan this_0 → t3 c = t2 c := fun c z => by rw [← e3]; exact cpy_o z
  have p3 : t3 (kA_points this_0) 0 = σ (kA_points other_0) 0 := by rw [o3 _ (ncA_points_plan _), p2]
  rw [p3, w32_of (x := σ (kA_points other_0) 0) (by omega) (by omega)]
  refine wp_cp (by omega) ?_
  generalize e4 : cpy t3 (kA_x other_0) 0 (kA_x this_0) 0 (σ (kA_points other_0) 0) = t4
  have h4 : II t4 := by rw [← e4]; exact II_cpy h3 (by rw [bA_x hs, bA_x ho])
  have o4 : ∀ c, c ≠ kA_x this_0 → t4 c = t3 c := fun c z => by rw [← e4]; exact cpy_o z
  have p4 : t4 (kA_points this_0) 0 = σ (kA_points other_0) 0 := by rw [o4 _ (ncA_points_x _), p3]
  rw [p4, w32_of (x := σ (kA_points other_0) 0) (by omega) (by omega)]
  refine wp_cp (by omega) ?_
  generalize e5 : cpy t4 (kA_y other_0) 0 (kA_y this_0) 0 (σ (kA_points other_0) 0) = t5
  have h5 : II t5 := by rw [← e5]; exact II_cpy h4 (by rw [bA_y hs, bA_y ho])
  have o5 : ∀ c, c ≠ kA_y this_0 → t5 c = t4 c := fun c z => by rw [← e5]; exact cpy_o z
  have r1 : t5 (kA_plans this_0) 0 = σ (kA_plans other_0) 0 := by rw [o5 _ (ncA_plans_y _), o4 _ (ncA_plans_x _), o3 _ (ncA_plans_plan _), n2]
  have r2 : t5 (kA_points this_0) 0 = σ (kA_points other_0) 0 := by rw [o5 _ (ncA_points_y _), p4]
  have r3 : ∀ i, 0 ≤ i → i < σ (kA_plans other_0) 0 → t5 (kA_plan this_0) i = σ (kA_plan other_0) i := fun i i0 i1 => by
    rw [o5 _ (ncA_plan_y _), o4 _ (ncA_plan_x _), ← e3]
    unfold cpy
    rw [if_pos ⟨rfl, by omega, by omega⟩, show (0 : Int) + (i - 0) = i by omega]
    exact q2 _ _ (by unfold kA_plan kA_plans; omega) (by unfold kA_plan kA_points; omega)
  refine wp_some ⟨h5, ?_, r1, r2, r3, fun i i0 i1 => ⟨?_, ?_⟩, fun h => ?_⟩
  · have f := FC_tr (ms := []) (ss := [this_0]) (FS_plans e1 hs) (FS_points e2 hs) (by decide) (by decide) (by simp) (by simp)
    have f := FC_tr (ms := []) (ss := [this_0]) f (FC_own o3 hs (by unfold kA_plan; omega) (by unfold kA_plan; omega)) (by decide) (by decide) (by simp) (by simp)
    have f := FC_tr (ms := []) (ss := [this_0]) f (FC_own o4 hs (by unfold kA_x; omega) (by unfold kA_x; omega)) (by decide) (by decide) (by simp) (by simp)
    exact FC_tr f (FC_own o5 hs (by unfold kA_y; omega) (by unfold kA_y; omega)) (by decide) (by decide) (by simp) (by simp)
  · rw [o5 _ (ncA_x_y _), ← e4]
    unfold cpy
    rw [if_pos ⟨rfl, by omega, by omega⟩, show (0 : Int) + (i - 0) = i by omega, o3 _ (by unfold kA_x kA_plan; obtain ⟨a, b, c⟩ := hs; obtain ⟨d, e, f⟩ := ho; omega)]
    exact q2 _ _ (by unfold kA_x kA_plans; omega) (by unfold kA_x kA_points; omega)
  · rw [← e5]
    unfold cpy
    rw [if_pos ⟨rfl, by omega, by omega⟩, show (0 : Int) + (i - 0) = i by omega, o4 _ (by unfold kA_y kA_x; obtain ⟨a, b, c⟩ := hs; obtain ⟨d, e, f⟩ := ho; omega), o3 _ (by unfold kA_y kA_plan; obtain ⟨a, b, c⟩ := hs; obtain ⟨d, e, f⟩ := ho; omega)]
    exact q2 _ _ (by unfold kA_y kA_plans; omega) (by unfold kA_y kA_points; omega)
  · rcases h with ⟨z1, z2⟩ | ⟨z1, m, hm⟩
    · exact Or.inl ⟨by rw [r1]; exact z1, by rw [r2]; exact z2⟩
    · refine Or.inr ⟨by rw [r1]; exact z1, m, ?_⟩
      rw [r1, r2]
      exact FL_cg hm (fun i i0 i1 => r3 i i0 i1)
end CLS
