section CYC
/-- pieces round a place in an order; what lies behind each one, going on -/
def tt_ (m : Nat) (inc : Nat → Bool) (af : Nat → Nat → Bool) (b : Nat → Bool) (k : Nat) : Bool := xs_ m (fun j => b j && (inc j && af k j))
def ct_ (m : Nat) (f : Nat → Bool) : Nat := match m with
  | 0 => 0
  | n + 1 => ct_ n f + (if f n = true then 1 else 0)
theorem ct_le {f g : Nat → Bool} : ∀ {m : Nat}, (∀ j, j < m → f j = true → g j = true) → ct_ m f ≤ ct_ m g
  | 0, _ => Nat.le_refl _
  | m + 1, h => by
    unfold ct_
    have := ct_le (f := f) (g := g) (m := m) (fun j hj => h j (by omega))
    by_cases q : f m = true
    · rw [if_pos q, if_pos (h m (by omega) q)]; omega
    · rw [if_neg q]; omega
theorem ct_lt {f g : Nat → Bool} {z : Nat} : ∀ {m : Nat}, (∀ j, j < m → f j = true → g j = true) → z < m → f z = false → g z = true → ct_ m f < ct_ m g
  | 0, _, hz, _, _ => absurd hz (by omega)
  | m + 1, h, hz, h1, h2 => by
    unfold ct_
    by_cases q : z = m
    · subst q
      rw [if_neg (by rw [h1]; decide), if_pos h2]
      have := ct_le (f := f) (g := g) (m := z) (fun j hj => h j (by omega))
      omega
    · have := ct_lt (f := f) (g := g) (z := z) (m := m) (fun j hj => h j (by omega)) (by omega) h1 h2
      by_cases p : f m = true
      · rw [if_pos p, if_pos (h m (by omega) p)]; omega
      · rw [if_neg p]; omega
/-- a strict order of the incident ones -/
def so_ (m : Nat) (inc : Nat → Bool) (af : Nat → Nat → Bool) : Prop := (∀ x, x < m → inc x = true → af x x = false) ∧ (∀ x y z, x < m → y < m → z < m → inc x = true → inc y = true → inc z = true → af x y = true → af y z = true → af x z = true) ∧ (∀ x y, x < m → y < m → inc x = true → inc y = true → x ≠ y → af x y = true ∨ af y x = true)
variable {m : Nat} {inc : Nat → Bool} {af : Nat → Nat → Bool}
theorem so_asym (h : so_ m inc af) {x y : Nat} (hx : x < m) (hy : y < m) (ix : inc x = true) (iy : inc y = true) (h1 : af x y = true) : af y x = false := by
  cases q : af y x with
  | false => rfl
  | true =>
    have := h.2.1 x y x hx hy hx ix iy ix h1 q
    rw [h.1 x hx ix] at this; cases this
/-- next ones -/
theorem tt_next (h : so_ m inc af) (b : Nat → Bool) {x y : Nat} (hx : x < m) (hy : y < m) (ix : inc x = true) (iy : inc y = true) (h1 : af x y = true) (hn : ∀ z, z < m → inc z = true → af x z = true → af z y = true → False) : tt_ m inc af b x = Bool.xor (b y) (tt_ m inc af b y) := by
  unfold tt_
  have e : b y = xs_ m (fun j => b j && (j == y)) := by
    rw [xs_one hy (fun j hj hne => by
      have : (j == y) = false := by simp only [beq_eq_false_iff_ne, ne_eq]; exact hne
      rw [this, Bool.and_false])]
    simp
  rw [e, ← xs_x]
  apply xs_cg
  intro j hj
  cases b j with
  | false => rfl
  | true =>
  cases hi : inc j with
  | false =>
    have : (j == y) = false := by simp only [beq_eq_false_iff_ne, ne_eq]; intro q; subst q; rw [iy] at hi; cases hi
    rw [this]; rfl
  | true =>
    by_cases q : j = y
    · subst q
      rw [h1, h.1 j hj hi]; simp
    · have z : (j == y) = false := by simp only [beq_eq_false_iff_ne, ne_eq]; exact q
      rw [z]
      simp only [Bool.true_and, Bool.false_xor]
      cases p : af y j with
      | true => exact h.2.1 x y j hx hy hj ix iy hi h1 p
      | false =>
        cases r : af x j with
        | false => rfl
        | true =>
          rcases h.2.2 j y hj hy hi iy q with s | s
          · exact (hn j hj hi r s).elim
          · rw [p] at s; cases s
theorem tt_last (b : Nat → Bool) {x : Nat} (hn : ∀ z, z < m → inc z = true → af x z = true → False) : tt_ m inc af b x = false := by
  unfold tt_
  apply xs_no
  intro j hj
  cases hi : inc j with
  | false => simp
  | true =>
    cases r : af x j with
    | false => simp
    | true => exact (hn j hj hi r).elim
theorem tt_first (h : so_ m inc af) (b : Nat → Bool) (ht : xs_ m (fun j => b j && inc j) = false) {y : Nat} (hy : y < m) (iy : inc y = true) (hn : ∀ z, z < m → inc z = true → af z y = true → False) : tt_ m inc af b y = b y := by
  have e : b y = xs_ m (fun j => b j && (j == y)) := by
    rw [xs_one hy (fun j hj hne => by
      have : (j == y) = false := by simp only [beq_eq_false_iff_ne, ne_eq]; exact hne
      rw [this, Bool.and_false])]
    simp
  have e2 : Bool.xor (tt_ m inc af b y) (b y) = xs_ m (fun j => b j && inc j) := by
    unfold tt_
    rw [e, ← xs_x]
    apply xs_cg
    intro j hj
    cases b j with
    | false => rfl
    | true =>
    cases hi : inc j with
    | false =>
      have : (j == y) = false := by simp only [beq_eq_false_iff_ne, ne_eq]; intro q; subst q; rw [iy] at hi; cases hi
      rw [this]; rfl
    | true =>
      by_cases q : j = y
      · subst q
        rw [h.1 j hj hi]; simp
      · have z : (j == y) = false := by simp only [beq_eq_false_iff_ne, ne_eq]; exact q
        rw [z]
        rcases h.2.2 j y hj hy hi iy q with s | s
        · exact (hn j hj hi s).elim
        · rw [s]; rfl
  rw [ht] at e2
  exact bool_x2 e2
/-- with two marks at once: what is right of a piece (behind it), and left of it (ahead of it) -/
def sr_ (m : Nat) (inc : Nat → Bool) (af : Nat → Nat → Bool) (b c : Nat → Bool) (K L : Bool) (res : Bool → Bool → Bool) (k : Nat) : Bool := res (Bool.xor K (tt_ m inc af b k)) (Bool.xor L (tt_ m inc af c k))
def sl_ (m : Nat) (inc : Nat → Bool) (af : Nat → Nat → Bool) (b c : Nat → Bool) (K L : Bool) (res : Bool → Bool → Bool) (k : Nat) : Bool := res (Bool.xor K (Bool.xor (tt_ m inc af b k) (b k))) (Bool.xor L (Bool.xor (tt_ m inc af c k) (c k)))
variable {b c : Nat → Bool} {K L : Bool} {res : Bool → Bool → Bool}
theorem cy_mid (h : so_ m inc af) : ∀ (N : Nat) (x y : Nat), x < m → y < m → inc x = true → inc y = true → af x y = true → (∀ z, z < m → inc z = true → af x z = true → af z y = true → sl_ m inc af b c K L res z = sr_ m inc af b c K L res z) → ct_ m (fun z => inc z && (af x z && af z y)) ≤ N → sr_ m inc af b c K L res x = sl_ m inc af b c K L res y := by
  intro N
  induction N with
  | zero =>
    intro x y hx hy ix iy h1 hb hc
    have hn : ∀ z, z < m → inc z = true → af x z = true → af z y = true → False := by
      intro z hz iz p q
      have := ct_lt (f := fun _ => false) (g := fun z => inc z && (af x z && af z y)) (m := m) (z := z) (fun j _ q => by cases q) hz rfl (by simp only [iz, p, q, Bool.and_self])
      omega
    unfold sr_ sl_
    rw [tt_next h b hx hy ix iy h1 hn, tt_next h c hx hy ix iy h1 hn, Bool.xor_comm (b y), Bool.xor_comm (c y)]
  | succ N ih =>
    intro x y hx hy ix iy h1 hb hc
    by_cases g : ∃ z, z < m ∧ inc z = true ∧ af x z = true ∧ af z y = true
    · obtain ⟨z, hz, iz, p, q⟩ := g
      have zz := h.1 z hz iz
      have c1 : ct_ m (fun u => inc u && (af x u && af u z)) < ct_ m (fun z => inc z && (af x z && af z y)) := by
        refine ct_lt (z := z) (fun j hj r => ?_) hz (by simp only [zz, Bool.and_false]) (by simp only [iz, p, q, Bool.and_self])
        simp only [Bool.and_eq_true] at r ⊢
        exact ⟨r.1, r.2.1, h.2.1 j z y hj hz hy r.1 iz iy r.2.2 q⟩
      have c2 : ct_ m (fun u => inc u && (af z u && af u y)) < ct_ m (fun z => inc z && (af x z && af z y)) := by
        refine ct_lt (z := z) (fun j hj r => ?_) hz (by simp only [zz, Bool.and_false, Bool.false_and]) (by simp only [iz, p, q, Bool.and_self])
        simp only [Bool.and_eq_true] at r ⊢
        exact ⟨r.1, h.2.1 x z j hx hz hj ix iz r.1 p r.2.1, r.2.2⟩
      have e1 := ih x z hx hz ix iz p (fun u hu iu r s => hb u hu iu r (h.2.1 u z y hu hz hy iu iz iy s q)) (by omega)
      have e2 := ih z y hz hy iz iy q (fun u hu iu r s => hb u hu iu (h.2.1 x z u hx hz hu ix iz iu p r) s) (by omega)
      rw [e1, hb z hz iz p q, e2]
    · have hn : ∀ z, z < m → inc z = true → af x z = true → af z y = true → False := fun z hz iz p q => g ⟨z, hz, iz, p, q⟩
      unfold sr_ sl_
      rw [tt_next h b hx hy ix iy h1 hn, tt_next h c hx hy ix iy h1 hn, Bool.xor_comm (b y), Bool.xor_comm (c y)]
theorem cy_end (h : so_ m inc af) : ∀ (N : Nat) (x : Nat), x < m → inc x = true → (∀ z, z < m → inc z = true → af x z = true → sl_ m inc af b c K L res z = sr_ m inc af b c K L res z) → ct_ m (fun z => inc z && af x z) ≤ N → sr_ m inc af b c K L res x = res K L := by
  intro N
  induction N with
  | zero =>
    intro x hx ix hb hc
    have hn : ∀ z, z < m → inc z = true → af x z = true → False := by
      intro z hz iz p
      have := ct_lt (f := fun _ => false) (g := fun z => inc z && af x z) (m := m) (z := z) (fun j _ q => by cases q) hz rfl (by simp only [iz, p, Bool.and_self])
      omega
    unfold sr_
    rw [tt_last b hn, tt_last c hn, Bool.xor_false, Bool.xor_false]
  | succ N ih =>
    intro x hx ix hb hc
    by_cases g : ∃ z, z < m ∧ inc z = true ∧ af x z = true
    · obtain ⟨z, hz, iz, p⟩ := g
      have c2 : ct_ m (fun u => inc u && af z u) < ct_ m (fun z => inc z && af x z) := by
        refine ct_lt (z := z) (fun j hj r => ?_) hz (by simp only [h.1 z hz iz, Bool.and_false]) (by simp only [iz, p, Bool.and_self])
        simp only [Bool.and_eq_true] at r ⊢
        exact ⟨r.1, h.2.1 x z j hx hz hj ix iz r.1 p r.2⟩
      have e1 := cy_mid h _ x z hx hz ix iz p (fun u hu iu r s => hb u hu iu r) (Nat.le_refl _)
      have e2 := ih z hz iz (fun u hu iu r => hb u hu iu (h.2.1 x z u hx hz hu ix iz iu p r)) (by omega)
      rw [e1, hb z hz iz p, e2]
    · have hn : ∀ z, z < m → inc z = true → af x z = true → False := fun z hz iz p => g ⟨z, hz, iz, p⟩
      unfold sr_
      rw [tt_last b hn, tt_last c hn, Bool.xor_false, Bool.xor_false]
theorem cy_beg (h : so_ m inc af) (hb0 : xs_ m (fun j => b j && inc j) = false) (hc0 : xs_ m (fun j => c j && inc j) = false) : ∀ (N : Nat) (y : Nat), y < m → inc y = true → (∀ z, z < m → inc z = true → af z y = true → sl_ m inc af b c K L res z = sr_ m inc af b c K L res z) → ct_ m (fun z => inc z && af z y) ≤ N → sl_ m inc af b c K L res y = res K L := by
  intro N
  induction N with
  | zero =>
    intro y hy iy hb hc
    have hn : ∀ z, z < m → inc z = true → af z y = true → False := by
      intro z hz iz p
      have := ct_lt (f := fun _ => false) (g := fun z => inc z && af z y) (m := m) (z := z) (fun j _ q => by cases q) hz rfl (by simp only [iz, p, Bool.and_self])
      omega
    unfold sl_
    rw [tt_first h b hb0 hy iy hn, tt_first h c hc0 hy iy hn, Bool.xor_self, Bool.xor_self, Bool.xor_false, Bool.xor_false]
  | succ N ih =>
    intro y hy iy hb hc
    by_cases g : ∃ z, z < m ∧ inc z = true ∧ af z y = true
    · obtain ⟨z, hz, iz, p⟩ := g
      have c2 : ct_ m (fun u => inc u && af u z) < ct_ m (fun z => inc z && af z y) := by
        refine ct_lt (z := z) (fun j hj r => ?_) hz (by simp only [h.1 z hz iz, Bool.and_false]) (by simp only [iz, p, Bool.and_self])
        simp only [Bool.and_eq_true] at r ⊢
        exact ⟨r.1, h.2.1 j z y hj hz hy r.1 iz iy r.2 p⟩
      have e1 := cy_mid h _ z y hz hy iz iy p (fun u hu iu r s => hb u hu iu s) (Nat.le_refl _)
      have e2 := ih z hz iz (fun u hu iu r => hb u hu iu (h.2.1 u z y hu hz hy iu iz iy r p)) (by omega)
      rw [← e1, ← hb z hz iz p, e2]
    · have hn : ∀ z, z < m → inc z = true → af z y = true → False := fun z hz iz p => g ⟨z, hz, iz, p⟩
      unfold sl_
      rw [tt_first h b hb0 hy iy hn, tt_first h c hc0 hy iy hn, Bool.xor_self, Bool.xor_self, Bool.xor_false, Bool.xor_false]
/-- x comes ahead of y, going on from e round -/
def rd1_ (af : Nat → Nat → Bool) (e x y : Nat) : Bool := if af e x = true then (if af e y = true then af x y else true) else (if af e y = true then false else af x y)
/-- behind a piece of the boundary with the result behind it there is another one, and the first has the result ahead of it -/
theorem cy_go (h : so_ m inc af) (hb0 : xs_ m (fun j => b j && inc j) = false) (hc0 : xs_ m (fun j => c j && inc j) = false) {e : Nat} (he : e < m) (ie : inc e = true) (h1 : sr_ m inc af b c K L res e = true) (h2 : sl_ m inc af b c K L res e = false) :
    (∃ k, k < m ∧ inc k = true ∧ k ≠ e ∧ sl_ m inc af b c K L res k ≠ sr_ m inc af b c K L res k) ∧
    ∀ k, k < m → inc k = true → k ≠ e → sl_ m inc af b c K L res k ≠ sr_ m inc af b c K L res k → (∀ z, z < m → inc z = true → z ≠ e → z ≠ k → sl_ m inc af b c K L res z ≠ sr_ m inc af b c K L res z → rd1_ af e z k = false) → sl_ m inc af b c K L res k = true := by
  constructor
  · by_cases g : ∃ k, k < m ∧ inc k = true ∧ k ≠ e ∧ sl_ m inc af b c K L res k ≠ sr_ m inc af b c K L res k
    · exact g
    · exfalso
      have nb : ∀ k, k < m → inc k = true → k ≠ e → sl_ m inc af b c K L res k = sr_ m inc af b c K L res k := by
        intro k hk ik hne
        by_cases q : sl_ m inc af b c K L res k = sr_ m inc af b c K L res k
        · exact q
        · exact absurd ⟨k, hk, ik, hne, q⟩ g
      have e1 := cy_end h (b := b) (c := c) (K := K) (L := L) (res := res) _ e he ie (fun z hz iz p => nb z hz iz (fun q => by subst q; rw [h.1 z hz iz] at p; cases p)) (Nat.le_refl _)
      have e2 := cy_beg h hb0 hc0 (K := K) (L := L) (res := res) _ e he ie (fun z hz iz p => nb z hz iz (fun q => by subst q; rw [h.1 z hz iz] at p; cases p)) (Nat.le_refl _)
      rw [← e1, h1, h2] at e2; cases e2
  · intro k hk ik hne hbd hmin
    cases p : af e k with
    | true =>
      rw [← cy_mid h _ e k he hk ie ik p ?_ (Nat.le_refl _)]
      · exact h1
      · intro z hz iz r s
        by_cases q : sl_ m inc af b c K L res z = sr_ m inc af b c K L res z
        · exact q
        · exfalso
          have z1 : z ≠ e := fun t => by subst t; rw [h.1 z hz iz] at r; cases r
          have z2 : z ≠ k := fun t => by subst t; rw [h.1 z hz iz] at s; cases s
          have := hmin z hz iz z1 z2 q
          unfold rd1_ at this
          rw [if_pos r, if_pos p, s] at this; cases this
    | false =>
      have pk : af k e = true := by
        rcases h.2.2 e k he hk ie ik (fun t => hne t.symm) with t | t
        · rw [p] at t; cases t
        · exact t
      have e1 := cy_end h (b := b) (c := c) (K := K) (L := L) (res := res) _ e he ie (fun z hz iz r => by
        by_cases q : sl_ m inc af b c K L res z = sr_ m inc af b c K L res z
        · exact q
        · exfalso
          have z1 : z ≠ e := fun t => by subst t; rw [h.1 z hz iz] at r; cases r
          have z2 : z ≠ k := fun t => by subst t; rw [p] at r; cases r
          have := hmin z hz iz z1 z2 q
          unfold rd1_ at this
          rw [if_pos r, if_neg (by rw [p]; decide)] at this; cases this) (Nat.le_refl _)
      rw [cy_beg h hb0 hc0 (K := K) (L := L) (res := res) _ k hk ik (fun z hz iz r => by
        by_cases q : sl_ m inc af b c K L res z = sr_ m inc af b c K L res z
        · exact q
        · exfalso
          have ze := h.2.1 z k e hz hk he iz ik ie r pk
          have z1 : z ≠ e := fun t => by subst t; rw [h.1 z hz iz] at ze; cases ze
          have z2 : z ≠ k := fun t => by subst t; rw [h.1 z hz iz] at r; cases r
          have ez := so_asym h hz he iz ie ze
          have := hmin z hz iz z1 z2 q
          unfold rd1_ at this
          rw [if_neg (by rw [ez]; decide), if_neg (by rw [p]; decide), r] at this; cases this) (Nat.le_refl _), ← e1]
      exact h1
end CYC
section ANG
/-- going round from e: the order by sides of e (right, behind, left) is that of the half planes -/
theorem an_id {e1 e2 x1 x2 y1 y2 p q : Int} : (e1 * y2 - e2 * y1) * (p * x1 + q * x2) = (e1 * x2 - e2 * x1) * (p * y1 + q * y2) + (x1 * y2 - x2 * y1) * (p * e1 + q * e2) := by grind
def hv_ (c : Int) : Int := if c < 0 then 0 else if c = 0 then 1 else 2
/-- order of directions: the half plane first, then the turn -/
def aw_ (f g c : Int) : Bool := decide ((0 < f ∧ g < 0) ∨ ((0 < f ↔ 0 < g) ∧ c < 0))
theorem sgn_mul {a b : Int} : (0 < a → 0 < b → 0 < a * b) ∧ (0 < a → b < 0 → a * b < 0) ∧ (a < 0 → 0 < b → a * b < 0) ∧ (a < 0 → b < 0 → 0 < a * b) ∧ (a = 0 → a * b = 0) := by
  refine ⟨fun h1 h2 => Int.mul_pos h1 h2, fun h1 h2 => Int.mul_neg_of_pos_of_neg h1 h2, fun h1 h2 => Int.mul_neg_of_neg_of_pos h1 h2, fun h1 h2 => Int.mul_pos_of_neg_of_neg h1 h2, fun h => by rw [h, Int.zero_mul]⟩
end ANG
