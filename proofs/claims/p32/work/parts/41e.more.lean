section SL3
variable {l : Launch} {E : EE} {M M' : MRec} {d mc ms d' mc' ms' na : Nat} {post : Outc → SG → Prop} {pc : Nat} {lv lv' : LVs} {st rest as : List Value} {σ τ : SG} {cu su cu' su' : Nat} {X Y x y : Int} {a n c i index e b : Nat} {N : Int} {ci Nf : Nat} {C : String} {T : u_T} {ty : Nat → FieldType} {ks : List (Nat × Nat)}
/-- fewer locals -/
def lle (u v : LVs) : Prop := match u, v with
  | [], _ => True
  | x :: t, y :: w => (x = none ∨ x = y) ∧ lle t w
  | x :: t, [] => x = none ∧ lle t []
theorem lle_in : ∀ (u v : LVs), lle u v → ∀ (i : Nat) (w : Value), u[i]? = some (some w) → v[i]? = some (some w) := by
  intro u
  induction u with
  | nil => intro v _ i w h; simp at h
  | cons x t ih =>
    intro v h i w hw
    cases v with
    | nil =>
      obtain ⟨h1, h2⟩ := h
      cases i with
      | zero => subst h1; simp at hw
      | succ i =>
        rw [List.getElem?_cons_succ] at hw
        have := ih [] h2 i w hw
        simp at this
    | cons y v =>
      obtain ⟨h1, h2⟩ := h
      cases i with
      | zero =>
        rcases h1 with h1 | h1
        · subst h1; simp at hw
        · subst h1; exact hw
      | succ i =>
        rw [List.getElem?_cons_succ] at hw ⊢
        exact ih v h2 i w hw
theorem z_le (h : lle lv' lv) (k : YY l E M d mc ms post pc lv' st σ cu su) : YY l E M d mc ms post pc lv st σ cu su := z_less (lle_in lv' lv h) k
theorem z_wide (hc : cu ≤ cu') (hs : su ≤ su') (k : YY l E M d mc ms post pc lv st σ cu' su') : YY l E M d mc ms post pc lv st σ cu su := fun h hh => x_wide hc hs (k h hh)
def riT (r : Int ⊕ Nat) : Option Value ⊕ Nat := match r with
  | .inl x => .inl (some (vi x))
  | .inr e => .inr e
def rlT (r : Int ⊕ Nat) : Option Value ⊕ Nat := match r with
  | .inl x => .inl (some (vl x))
  | .inr e => .inr e
def rzT (r : Bool ⊕ Nat) : Option Value ⊕ Nat := match r with
  | .inl x => .inl (some (zv x))
  | .inr e => .inr e
def rrT (r : Nat ⊕ Nat) : Option Value ⊕ Nat := match r with
  | .inl x => .inl (some (vr x))
  | .inr e => .inr e
def ruT (r : Unit ⊕ Nat) : Option Value ⊕ Nat := match r with
  | .inl _ => .inl none
  | .inr e => .inr e
theorem sl_S {i : Int} (h : 0 ≤ i ∧ i < 32) : isS (34 + 4 * i.toNat) := by
  have := h.1; have := h.2
  exact ⟨by omega, by omega, by omega⟩
theorem ly_B {i : Int} (h : 0 ≤ i ∧ i < 16) : lay (256 + i.toNat) = some (.inr (0, 280, 0, 0)) := by
  have := ly_B0 i.toNat (by have := h.1; have := h.2; omega)
  rwa [Nat.one_mul] at this
/-- a piece of a row laid into another one (or the same) -/
def cpy (σ : SG) (ca : Nat) (p : Int) (cb : Nat) (q n : Int) : SG := fun c i => if c = cb ∧ q ≤ i ∧ i < q + n then σ ca (p + (i - q)) else σ c i
def cp_ {β : Type} (σ : SG) (ca : Nat) (Na p : Int) (cb : Nat) (Nb q n : Int) (k : SG → Option β) : Option β := if 0 ≤ p ∧ 0 ≤ q ∧ 0 ≤ n ∧ p + n ≤ Na ∧ q + n ≤ Nb then k (cpy σ ca p cb q n) else none
theorem cp_e {β : Type} {σ : SG} {ca : Nat} {Na p : Int} {cb : Nat} {Nb q n : Int} {k : SG → Option β} {r : β} (h : cp_ σ ca Na p cb Nb q n k = some r) : ∃ τ, τ = cpy σ ca p cb q n ∧ (0 ≤ p ∧ 0 ≤ q ∧ 0 ≤ n ∧ p + n ≤ Na ∧ q + n ≤ Nb) ∧ k τ = some r := by
  unfold cp_ at h
  by_cases z : 0 ≤ p ∧ 0 ≤ q ∧ 0 ≤ n ∧ p + n ≤ Na ∧ q + n ≤ Nb
  · rw [if_pos z] at h; exact ⟨_, rfl, z, h⟩
  · rw [if_neg z] at h; cases h
theorem wp_cp {β : Type} {σ : SG} {ca : Nat} {Na p : Int} {cb : Nat} {Nb q n : Int} {k : SG → Option β} {Q : β → Prop} (z : 0 ≤ p ∧ 0 ≤ q ∧ 0 ≤ n ∧ p + n ≤ Na ∧ q + n ≤ Nb) (hk : wp_ (k (cpy σ ca p cb q n)) Q) : wp_ (cp_ σ ca Na p cb Nb q n k) Q := by
  unfold cp_; rw [if_pos z]; exact hk
theorem ar_i_cp {σ : SG} {ca cb : Nat} {p q n : Int} (h1 : 0 ≤ p) (h2 : 0 ≤ q) (h3 : 0 ≤ n) : ar_i (cpy σ ca p cb q n) cb = va_cpy (ar_i σ ca) (ar_i σ cb) p.toNat q.toNat n.toNat := by
  funext j
  unfold ar_i va_cpy cpy
  by_cases z : q.toNat ≤ j ∧ j < q.toNat + n.toNat
  · rw [if_pos z, if_pos ⟨rfl, by omega, by omega⟩]
    congr 2
    omega
  · rw [if_neg z, if_neg (fun w => z (by have := w.2.1; have := w.2.2; omega))]
theorem nn32 {z : Int} (h : 0 ≤ w32 z) : ¬ Int32.ofInt z < 0 := fun q => by
  have := Int32.lt_iff_toInt_lt.mp q
  have h2 : (Int32.ofInt z).toInt < 0 := this
  have h3 : (Int32.ofInt z).toInt = w32 z := rfl
  omega
theorem tn32 (z : Int) : (Int32.ofInt z).toNatClampNeg = (w32 z).toNat := rfl
theorem z_acopyI {a0 n0 n1 b0 s0 b1 s1 ca cb : Nat} {SP DP NN sp dp nn : Int} {Na Nb : Int} (hf : decode M.2.1 pc = .ok (.invokestatic index, 3)) (hl : Cond.methodLink M.1.cls index arraycopyName ∈ WS) (hnat : Cond.native arraycopyName ∈ WS) (hs9 : Cond.static arraycopyName ∈ WS) (hi : Cond.initialized "java/lang/System" ∈ WS)
    (hL0 : lay a0 = some (.inr (0, n0, b0, s0))) (hL1 : lay a = some (.inr (0, n1, b1, s1))) (hca : a0 * 256 = ca) (hcb : a * 256 = cb) (hNa : (n0 : Int) = Na) (hNb : (n1 : Int) = Nb) (hsp : w32 SP = sp) (hdp : w32 DP = dp) (hnn : w32 NN = nn) (hb : 0 ≤ sp ∧ 0 ≤ dp ∧ 0 ≤ nn ∧ sp + nn ≤ Na ∧ dp + nn ≤ Nb) (hτ : τ = cpy σ ca sp cb dp nn)
    (hd : 1 ≤ d) (hst : (rest.map fun v => v.category).sum + (nativeFrameWords "java/lang/System" "arraycopy" 5 + 11) ≤ 64 * d) (k : YY l E M d mc ms post (pc + 3) lv rest τ cu su) : YY l E M d mc ms post pc lv (vi NN :: vi DP :: vr a :: vi SP :: vr a0 :: rest) σ cu su := fun h hh => by
  subst hsp; subst hdp; subst hnn; subst hca; subst hcb; subst hNa; subst hNb; subst hτ
  obtain ⟨b1, b2, b3, b4, b5⟩ := hb
  refine x_acopy (t := 0) .int rfl rfl hf hl hnat hs9 hi (hh a0 _ hL0) (hh a _ hL1) (nn32 b1) (nn32 b2) (nn32 b3) (by rw [tn32, tn32]; show _ ≤ n0; omega) (by rw [tn32, tn32]; show _ ≤ n1; omega) (fun i hi => rfl) hd hst ?_
  rw [tn32, tn32, tn32, ← ar_i_cp b1 b2 b3]
  exact k _ (HS_set hh hL1 (fun j hj => by funext i'; unfold cpy; rw [if_neg (fun w => hj (by have := w.1; omega))]) rfl)
theorem fit_b {z : Int} (h1 : -128 ≤ z) (h2 : z < 128) : fits .byte (.int (Int32.ofInt z)) = true := by
  have e : (Int32.ofInt z).toInt = z := Int32.toInt_ofInt_of_le (by omega) (by omega)
  have a1 : (-128 : Int32) ≤ Int32.ofInt z := Int32.le_iff_toInt_le.mpr (by rw [e]; exact h1)
  have a2 : Int32.ofInt z ≤ 127 := Int32.le_iff_toInt_le.mpr (by rw [e]; show z ≤ 127; omega)
  simp [fits, a1, a2]
theorem ar_b_cp {σ : SG} {ca cb : Nat} {p q n : Int} (h1 : 0 ≤ p) (h2 : 0 ≤ q) (h3 : 0 ≤ n) : ar_b (cpy σ ca p cb q n) cb = va_cpy (ar_b σ ca) (ar_b σ cb) p.toNat q.toNat n.toNat := by
  funext j
  unfold ar_b va_cpy cpy
  by_cases z : q.toNat ≤ j ∧ j < q.toNat + n.toNat
  · rw [if_pos z, if_pos ⟨rfl, by omega, by omega⟩]
    congr 3
    omega
  · rw [if_neg z, if_neg (fun w => z (by have := w.2.1; have := w.2.2; omega))]
theorem z_acopyB {a0 n0 n1 b0 s0 b1 s1 ca cb : Nat} {SP DP NN sp dp nn : Int} {Na Nb : Int} (hf : decode M.2.1 pc = .ok (.invokestatic index, 3)) (hl : Cond.methodLink M.1.cls index arraycopyName ∈ WS) (hnat : Cond.native arraycopyName ∈ WS) (hs9 : Cond.static arraycopyName ∈ WS) (hi : Cond.initialized "java/lang/System" ∈ WS)
    (hL0 : lay a0 = some (.inr (2, n0, b0, s0))) (hL1 : lay a = some (.inr (2, n1, b1, s1))) (hca : a0 * 256 = ca) (hcb : a * 256 = cb) (hNa : (n0 : Int) = Na) (hNb : (n1 : Int) = Nb) (hsp : w32 SP = sp) (hdp : w32 DP = dp) (hnn : w32 NN = nn) (hb : 0 ≤ sp ∧ 0 ≤ dp ∧ 0 ≤ nn ∧ sp + nn ≤ Na ∧ dp + nn ≤ Nb) (hτ : τ = cpy σ ca sp cb dp nn)
    (hd : 1 ≤ d) (hst : (rest.map fun v => v.category).sum + (nativeFrameWords "java/lang/System" "arraycopy" 5 + 11) ≤ 64 * d) (k : YY l E M d mc ms post (pc + 3) lv rest τ cu su) : YY l E M d mc ms post pc lv (vi NN :: vi DP :: vr a :: vi SP :: vr a0 :: rest) σ cu su := fun h hh => by
  subst hsp; subst hdp; subst hnn; subst hca; subst hcb; subst hNa; subst hNb; subst hτ
  obtain ⟨b1, b2, b3, b4, b5⟩ := hb
  refine x_acopy (t := 2) .byte rfl rfl hf hl hnat hs9 hi (hh a0 _ hL0) (hh a _ hL1) (nn32 b1) (nn32 b2) (nn32 b3) (by rw [tn32, tn32]; show _ ≤ n0; omega) (by rw [tn32, tn32]; show _ ≤ n1; omega) (fun i hi => fit_b (w8_lo _) (w8_hi _)) hd hst ?_
  rw [tn32, tn32, tn32, ← ar_b_cp b1 b2 b3]
  exact k _ (HS_set hh hL1 (fun j hj => by funext i'; unfold cpy; rw [if_neg (fun w => hj (by have := w.1; omega))]) rfl)
theorem x_lookup {post : Outc → HP → Prop} {h : HP} {dflt : Int} {ps : Array (Int × Int)} {n : Nat} {x : Int32} {off : Int} {tgt : Nat} (hf : decode M.2.1 pc = .ok (.lookupswitch dflt ps, n)) (hp : (ps.toList.zip (ps.toList.drop 1)).all (fun (a, next) => a.1 < next.1) = true) (ho : Op.lookupswitch.offset ps.toList dflt x.toInt = off) (ht : (pc : Int) + off = (tgt : Int)) (kk : XX l E M d mc ms post tgt lv st h cu su) : XX l E M d mc ms post pc lv (.int x :: st) h cu su := by
  intro p e s m args below meth c H locs ls K hR hS hL
  exact lv_lookup K.1 K.2.1 hf hp ho ht (kk p e s m args below meth c H locs ls K hR hS hL)
theorem z_lookup {dflt : Int} {ps : Array (Int × Int)} {n : Nat} {off : Int} {tgt : Nat} (hf : decode M.2.1 pc = .ok (.lookupswitch dflt ps, n)) (hX : w32 X = x) (hp : (ps.toList.zip (ps.toList.drop 1)).all (fun (a, next) => a.1 < next.1) = true) (ho : Op.lookupswitch.offset ps.toList dflt x = off) (ht : (pc : Int) + off = (tgt : Int)) (k : YY l E M d mc ms post tgt lv st σ cu su) : YY l E M d mc ms post pc lv (vi X :: st) σ cu su := fun h hh => by
  subst hX
  exact x_lookup hf hp ho ht (k h hh)
theorem z_callSX (h0 : M.2.2.2.2 = []) (h0' : M'.2.2.2.2 = []) (hf : decode M.2.1 pc = .ok (.invokestatic index, 3)) (hM : en_M M' na) (hml : Cond.methodLink M.1.cls index M'.1 ∈ WS) (hstt : Cond.static M'.1 ∈ WS) (hC : en_S l E M' d' mc' ms' as σ (pT (.inr e) τ)) (hn : as.length = na) (hst : st = as.reverse ++ rest) (hrest : (rest.map fun v => v.category).sum ≤ 8) (hd : d' + 1 ≤ d) (hcu : cu + mc' ≤ mc) (hsu : su + ms' ≤ ms) (hp : post (.inr (exn e)) τ) : YY l E M d mc ms post pc lv st σ cu su := z_callST (w := .inr e) h0 h0' hf hM hml hstt hC hn hst hrest hd hcu hsu (fun e' q => by cases q; exact hp) (fun v q => nomatch q)
theorem z_callSNX (h0 : M.2.2.2.2 = []) (h0' : M'.2.2.2.2 = []) (hf : decode M.2.1 pc = .ok (.invokestatic index, 3)) (hM : en_M M' na) {host : String} (hml : Cond.methodLinkNest M.1.cls index M'.1 host ∈ NW) (hstt : Cond.static M'.1 ∈ WS) (hC : en_S l E M' d' mc' ms' as σ (pT (.inr e) τ)) (hn : as.length = na) (hst : st = as.reverse ++ rest) (hrest : (rest.map fun v => v.category).sum ≤ 8) (hd : d' + 1 ≤ d) (hcu : cu + mc' ≤ mc) (hsu : su + ms' ≤ ms) (hp : post (.inr (exn e)) τ) : YY l E M d mc ms post pc lv st σ cu su := z_callSNT (w := .inr e) h0 h0' hf hM hml hstt hC hn hst hrest hd hcu hsu (fun e' q => by cases q; exact hp) (fun v q => nomatch q)
theorem z_callVX (h0 : M.2.2.2.2 = []) (h0' : M'.2.2.2.2 = []) (hf : decode M.2.1 pc = .ok (.invokevirtual index, 3)) (hM : en_M M' na) (hml : Cond.methodLink M.1.cls index M'.1 ∈ WS) (hins : Cond.instanceMethod M'.1 ∈ WS) (hsel : Cond.selects C M'.1 M'.1 ∈ WS) (hC : en_S l E M' d' mc' ms' (vr b :: as) σ (pT (.inr e) τ)) (hn : as.length = na) (hst : st = as.reverse ++ vr b :: rest) (hL : lay b = some (.inl (ci, ks))) (hcl : vwCl[ci]? = some (C, T, Nf)) (hrest : (rest.map fun v => v.category).sum ≤ 8) (hd : d' + 1 ≤ d) (hcu : cu + mc' ≤ mc) (hsu : su + ms' ≤ ms) (hp : post (.inr (exn e)) τ) : YY l E M d mc ms post pc lv st σ cu su := z_callVT (w := .inr e) h0 h0' hf hM hml hins hsel hC hn hst hL hcl hrest hd hcu hsu (fun e' q => by cases q; exact hp) (fun v q => nomatch q)
theorem z_callVNX (h0 : M.2.2.2.2 = []) (h0' : M'.2.2.2.2 = []) (hf : decode M.2.1 pc = .ok (.invokevirtual index, 3)) (hM : en_M M' na) {host : String} (hml : Cond.methodLinkNest M.1.cls index M'.1 host ∈ NW) (hins : Cond.instanceMethod M'.1 ∈ WS) (hsel : Cond.selects C M'.1 M'.1 ∈ WS) (hC : en_S l E M' d' mc' ms' (vr b :: as) σ (pT (.inr e) τ)) (hn : as.length = na) (hst : st = as.reverse ++ vr b :: rest) (hL : lay b = some (.inl (ci, ks))) (hcl : vwCl[ci]? = some (C, T, Nf)) (hrest : (rest.map fun v => v.category).sum ≤ 8) (hd : d' + 1 ≤ d) (hcu : cu + mc' ≤ mc) (hsu : su + ms' ≤ ms) (hp : post (.inr (exn e)) τ) : YY l E M d mc ms post pc lv st σ cu su := z_callVNT (w := .inr e) h0 h0' hf hM hml hins hsel hC hn hst hL hcl hrest hd hcu hsu (fun e' q => by cases q; exact hp) (fun v q => nomatch q)
end SL3
