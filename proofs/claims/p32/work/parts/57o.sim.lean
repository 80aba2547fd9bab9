section SIM
/-- a told entry like a given one, v cells behind -/
def SMe (pl pm : Int → Int) (v p : Int) : Prop := pm (p + v) = pl p ∧ 0 ≤ pm (p + v + 1) ∧ (3 ≤ pl p → pm (p + v + 1) = pl (p + 1))
theorem SMe_l {pl pm : Int → Int} {v p : Int} (h : SMe pl pm v p) : eL pm (p + v) = eL pl p ∧ 2 ≤ eL pl p := by
  obtain ⟨a, b, c⟩ := h
  unfold eL
  rw [a]
  by_cases q : pl p = 3
  · have := c (by omega)
    rw [if_pos q, if_pos q, this]
    exact ⟨rfl, by omega⟩
  · rw [if_neg q, if_neg q]; exact ⟨rfl, by decide⟩
def SIM (pl pm : Int → Int) (v : Int) : Nat → Int → Int → Prop
  | 0, p, q => p = q
  | m + 1, p, q => SMe pl pm v p ∧ SIM pl pm v m (p + eL pl p) q
theorem SIM_le {pl pm : Int → Int} {v : Int} : ∀ {m : Nat} {p q : Int}, SIM pl pm v m p q → p ≤ q
  | 0, p, q, h => by have : p = q := h; omega
  | m + 1, p, q, h => by
    have := SIM_le h.2
    have := (SMe_l h.1).2
    omega
theorem SIM_hd {pl pm : Int → Int} {v p q : Int} {m : Nat} (h : SIM pl pm v m p q) (hp : p < q) : SMe pl pm v p ∧ ∃ m', SIM pl pm v m' (p + eL pl p) q := by
  cases m with
  | zero => have : p = q := h; omega
  | succ m => exact ⟨h.1, m, h.2⟩
theorem SIM_cg {pl pm pn : Int → Int} {v : Int} : ∀ {m : Nat} {p q : Int}, SIM pl pm v m p q → (∀ i, i < q + v → pn i = pm i) → SIM pl pn v m p q
  | 0, p, q, h, _ => h
  | m + 1, p, q, h, hc => by
    obtain ⟨h1, h2⟩ := h
    have a := SIM_le h2
    have b := (SMe_l h1).2
    refine ⟨⟨?_, ?_, ?_⟩, SIM_cg h2 hc⟩
    · rw [hc _ (by omega)]; exact h1.1
    · rw [hc _ (by omega)]; exact h1.2.1
    · rw [hc _ (by omega)]; exact h1.2.2
theorem SIM_app {pl pm : Int → Int} {v : Int} : ∀ {m : Nat} {p q : Int}, SIM pl pm v m p q → SMe pl pm v q → SIM pl pm v (m + 1) p (q + eL pl q)
  | 0, p, q, h, e => by have : p = q := h; subst this; exact ⟨e, rfl⟩
  | m + 1, p, q, h, e => ⟨h.1, SIM_app h.2 e⟩
theorem PT_sim {pl pm : Int → Int} {v k : Int} : ∀ {n : Nat} {p r q : Int} {m : Nat}, PT pl k n p r → r ≤ q → SIM pl pm v m p q → PT pm k n (p + v) (r + v) ∧ ∃ m', SIM pl pm v m' r q
  | 0, p, r, q, m, h, _, s => by have : p = r := h; subst this; exact ⟨rfl, m, s⟩
  | n + 1, p, r, q, m, h, hr, s => by
    have l := PT_le h
    obtain ⟨a, b, c⟩ := h
    obtain ⟨e, m', s2⟩ := SIM_hd s (by omega)
    obtain ⟨z1, z2⟩ := PT_sim c hr s2
    refine ⟨⟨by rw [e.1]; exact a, e.2.1, ?_⟩, z2⟩
    rw [(SMe_l e).1, show p + v + eL pl p = p + eL pl p + v by omega]
    exact z1
theorem TU_sim {pl pm : Int → Int} {v : Int} : ∀ {f d n : Nat} {p r q : Int} {m : Nat}, TU pl f d n p r → r ≤ q → SIM pl pm v m p q → TU pm f d n (p + v) (r + v) ∧ ∃ m', SIM pl pm v m' r q
  | 0, d, n, p, r, q, m, h, _, s => by
    obtain ⟨a, b⟩ := h
    subst b
    exact ⟨⟨a, rfl⟩, m, s⟩
  | f + 1, d, n, p, r, q, m, h, hr, s => by
    rcases h with ⟨a, b⟩ | ⟨a, t, b, c⟩
    · subst b; exact ⟨Or.inl ⟨a, rfl⟩, m, s⟩
    · have lc := TU_le c
      have lt : p < t := by
        rcases b with ⟨_, _, z, b⟩ | ⟨_, _, _, b⟩ | ⟨_, _, _, b⟩
        · rw [b]; unfold eL; split <;> omega
        · have := PT_le b; omega
        · have := TU_le b; omega
      obtain ⟨e, m0, s2⟩ := SIM_hd s (by omega)
      rcases b with ⟨b1, b2, b3, b4⟩ | ⟨b1, b2, b3, b4⟩ | ⟨b1, b2, b3, b4⟩
      · rw [← b4] at s2
        obtain ⟨z1, z2⟩ := TU_sim c hr s2
        refine ⟨Or.inr ⟨a, t + v, Or.inl ⟨by rw [e.1]; exact b1, by rw [e.1]; exact b2, e.2.1, by rw [(SMe_l e).1]; omega⟩, z1⟩, z2⟩
      · rw [el_n (by omega)] at s2
        obtain ⟨y1, m1, y2⟩ := PT_sim b4 (by omega) s2
        obtain ⟨z1, z2⟩ := TU_sim c hr y2
        refine ⟨Or.inr ⟨a, t + v, Or.inr (Or.inl ⟨by rw [e.1]; exact b1, by rw [e.1]; exact b2, e.2.1, ?_⟩), z1⟩, z2⟩
        rw [e.1, e.2.2 (by omega), show p + v + 2 = p + 2 + v by omega]
        exact y1
      · rw [el_n (by omega)] at s2
        obtain ⟨y1, m1, y2⟩ := TU_sim b4 (by omega) s2
        obtain ⟨z1, z2⟩ := TU_sim c hr y2
        refine ⟨Or.inr ⟨a, t + v, Or.inr (Or.inr ⟨by rw [e.1]; exact b1, e.2.1, b3, ?_⟩), z1⟩, z2⟩
        rw [e.2.2 (by omega), show p + v + 2 = p + 2 + v by omega]
        exact y1
/-- a plan that is being told like that of a slot -/
def SMs (σ τ : SG) (s p : Int) : Prop := τ kR_planMany 32 = p - 2048 * s ∧ (∃ m, FL (τ kR_plan) m 65536 (65536 + τ kR_planMany 32) (τ kR_pointMany 32)) ∧ ∃ m, SIM (σ kR_plan) (τ kR_plan) (65536 - 2048 * s) m (2048 * s) p
theorem SMs_0 {σ τ : SG} {s : Int} (h1 : τ kR_planMany 32 = 0) (h2 : τ kR_pointMany 32 = 0) : SMs σ τ s (2048 * s) := ⟨by omega, ⟨0, by show (65536 : Int) = _; omega, h2⟩, 0, rfl⟩
theorem SMs_go {σ τ υ : SG} {s p : Int} (h : SMs σ τ s p) (o : eO (υ kR_plan) (65536 + τ kR_planMany 32)) (e1 : 65536 + υ kR_planMany 32 = 65536 + τ kR_planMany 32 + eL (υ kR_plan) (65536 + τ kR_planMany 32)) (e2 : υ kR_pointMany 32 = τ kR_pointMany 32 + eP (υ kR_plan) (65536 + τ kR_planMany 32)) (k : υ kR_plan (65536 + τ kR_planMany 32) = σ kR_plan p) (k3 : 3 ≤ σ kR_plan p → υ kR_plan (65536 + τ kR_planMany 32 + 1) = σ kR_plan (p + 1)) (sm : ∀ i, i < 65536 + τ kR_planMany 32 → υ kR_plan i = τ kR_plan i) : SMs σ υ s (p + eL (σ kR_plan) p) := by
  obtain ⟨a, ⟨m, b⟩, n, c⟩ := h
  have pv : p + (65536 - 2048 * s) = 65536 + τ kR_planMany 32 := by omega
  have se : SMe (σ kR_plan) (υ kR_plan) (65536 - 2048 * s) p := ⟨by rw [pv]; exact k, by rw [pv]; exact o.2.2.1.1, by rw [pv]; exact k3⟩
  have l := (SMe_l se).1
  rw [pv] at l
  rw [l] at e1
  have g := FL_app (FL_cg b (fun i _ y => sm i y)) o
  rw [l, ← e1, ← e2] at g
  exact ⟨by omega, ⟨m + 1, g⟩, n + 1, SIM_app (SIM_cg c (fun i hi => sm i (by omega))) se⟩
theorem SMs_SH {σ τ : SG} {s : Int} (h : SH σ s) (h2 : 2 ≤ σ kR_planMany s) (g : SMs σ τ s (2048 * s + σ kR_planMany s)) : SHn τ := by
  obtain ⟨a, b, n, c⟩ := g
  rcases h with h | ⟨_, _, f, t⟩
  · omega
  · obtain ⟨z, _⟩ := TU_sim t (Int.le_refl _) c
    rw [show 2048 * s + (65536 - 2048 * s) = 65536 by omega, show 2048 * s + σ kR_planMany s + (65536 - 2048 * s) = 65536 + τ kR_planMany 32 by omega] at z
    exact ⟨by omega, b, f, z⟩
end SIM
