section SLW
theorem en_hdn {M : MRec} {pc : Nat} {N : String} {k0 : Fin 4} {a b hp ct : Nat} (pre suf : List (Nat × Nat × Nat × Nat)) (h0 : M.2.2.2.2 = pre ++ (a, b, hp, ct) :: suf) (hpre : ∀ z ∈ pre, z.2.2.2 ≠ 0 ∧ ∃ nm : String, Cond.classLink M.1.cls z.2.2.2 nm ∈ WS ∧ N ∈ en_ex ∧ nm ∈ en_ex ∧ N ≠ nm) (hc : covers { startPc := a, endPc := b, handlerPc := hp, catchType := ct } pc = true) (h1 : ct ≠ 0) (h2 : Cond.classLink M.1.cls ct N ∈ WS) (h3 : Cond.castable N N ∈ NW) (h4 : decode M.2.1 hp = .ok (.astore_n k0, 1)) : en_hd M pc N (k0 : Nat) (hp + 1) := by
  refine ⟨tableOf pre, { startPc := a, endPc := b, handlerPc := hp, catchType := ct }, tableOf suf, ?_, ?_, hc, h1, h2, h3, Or.inr ⟨k0, rfl, h4, rfl⟩⟩
  · rw [h0]; exact List.map_append
  · intro z hz
    obtain ⟨y, hy, rfl⟩ := List.mem_map.mp hz
    exact Or.inr (hpre y hy)
theorem en_hdm {M : MRec} {pc : Nat} {N : String} {k0 : Nat} {a b hp ct : Nat} (pre suf : List (Nat × Nat × Nat × Nat)) (h0 : M.2.2.2.2 = pre ++ (a, b, hp, ct) :: suf) (hpre : ∀ z ∈ pre, z.2.2.2 ≠ 0 ∧ ∃ nm : String, Cond.classLink M.1.cls z.2.2.2 nm ∈ WS ∧ N ∈ en_ex ∧ nm ∈ en_ex ∧ N ≠ nm) (hc : covers { startPc := a, endPc := b, handlerPc := hp, catchType := ct } pc = true) (h1 : ct ≠ 0) (h2 : Cond.classLink M.1.cls ct N ∈ WS) (h3 : Cond.castable N N ∈ NW) (h4 : decode M.2.1 hp = .ok (.astore k0, 2)) : en_hd M pc N k0 (hp + 2) := by
  refine ⟨tableOf pre, { startPc := a, endPc := b, handlerPc := hp, catchType := ct }, tableOf suf, ?_, ?_, hc, h1, h2, h3, Or.inl ⟨h4, rfl⟩⟩
  · rw [h0]; exact List.map_append
  · intro z hz
    obtain ⟨y, hy, rfl⟩ := List.mem_map.mp hz
    exact Or.inr (hpre y hy)
/-- a call under a try: what it throws goes to x -/
def bw_ {α β : Type} (o : Option ((α ⊕ Nat) × SG)) (k : α → SG → Option β) (x : Nat → SG → Option β) : Option β := match o with
  | none => none
  | some (.inl v, s) => k v s
  | some (.inr e, s) => x e s
theorem bw_e {α β : Type} {o : Option ((α ⊕ Nat) × SG)} {k : α → SG → Option β} {x : Nat → SG → Option β} {r : β} (h : bw_ o k x = some r) : ∃ z s, o = some (z, s) ∧ (∀ v, z = .inl v → k v s = some r) ∧ (∀ e, z = .inr e → x e s = some r) := by
  match o, h with
  | some (.inl v, s), h => exact ⟨_, s, rfl, fun v e => by cases e; exact h, fun e q => nomatch q⟩
  | some (.inr v, s), h => exact ⟨_, s, rfl, (fun v e => nomatch e), fun e q => by cases q; exact h⟩
variable {l : Launch} {E : EE} {M M' : MRec} {d mc ms d' mc' ms' na : Nat} {post : Outc → SG → Prop} {pc : Nat} {lv lv' : LVs} {st rest as : List Value} {σ τ : SG} {cu su cu' su' : Nat} {X Y x y : Int} {a n c i index e b nx i9 : Nat} {N : Int} {ci Nf : Nat} {C : String} {T : u_T} {ty : Nat → FieldType} {ks : List (Nat × Nat)} {v : Option Value}
theorem z_mkW {as : List Value} {na : Nat} {z : Nat × Nat × Nat × Nat} {t : List (Nat × Nat × Nat × Nat)} (hM : en_M M na) (h0 : M.2.2.2.2 = z :: t) (hl : l.stackTraces = false) (hn : (en_args as).length ≤ M.2.2.1) (e : en_pad M.2.2.1 (en_args as) = lv) (k : YY l E M d mc ms post 0 lv [] σ 0 0) : en_S l E M d mc ms as σ post := fun h hh => en_mkW hM h0 hl hn (by rw [e]; exact k h hh)
theorem z_callVHR (h0' : M'.2.2.2.2 = []) (hf : decode M.2.1 pc = .ok (.invokevirtual index, 3)) (hM : en_M M' na) (hml : Cond.methodLink M.1.cls index M'.1 ∈ WS) (hins : Cond.instanceMethod M'.1 ∈ WS) (hsel : Cond.selects C M'.1 M'.1 ∈ WS) (hC : en_S l E M' d' mc' ms' (vr b :: as) σ (pS v τ)) (hn : as.length = na) (hst : st = as.reverse ++ vr b :: rest) (hL : lay b = some (.inl (ci, ks))) (hcl : vwCl[ci]? = some (C, T, Nf)) (hrest : (rest.map fun v => v.category).sum ≤ 8) (hd : d' + 1 ≤ d) (hcu : cu + mc' ≤ mc) (hsu : su + ms' ≤ ms) (k : YY l E M d mc ms post (pc + 3) lv (v.toList ++ rest) τ (cu + mc') (su + ms')) : YY l E M d mc ms post pc lv st σ cu su := fun h hs =>
  x_callVH h0' hf hM hml hins hsel (hs b _ hL) hcl as hn hst hrest (hC h hs) hd hcu hsu (fun N h' hp => by obtain ⟨s, _, e, _⟩ := hp; cases e) (fun w h' hp => by obtain ⟨s, hs', e, rfl⟩ := hp; cases e; exact k h' hs')
theorem z_callVHX (h0' : M'.2.2.2.2 = []) (hf : decode M.2.1 pc = .ok (.invokevirtual index, 3)) (hM : en_M M' na) (hml : Cond.methodLink M.1.cls index M'.1 ∈ WS) (hins : Cond.instanceMethod M'.1 ∈ WS) (hsel : Cond.selects C M'.1 M'.1 ∈ WS) (hC : en_S l E M' d' mc' ms' (vr b :: as) σ (pT (.inr e) τ)) (hn : as.length = na) (hst : st = as.reverse ++ vr b :: rest) (hL : lay b = some (.inl (ci, ks))) (hcl : vwCl[ci]? = some (C, T, Nf)) (hrest : (rest.map fun v => v.category).sum ≤ 8) (hd : d' + 1 ≤ d) (hcu : cu + mc' ≤ mc) (hsu : su + ms' ≤ ms) (hh : en_hd M pc (exn e) i9 nx) (hi : i9 < M.2.2.1) (hfr : en_fr lv i9 = true) (hlv : lv.set i9 none = lv') (k : YY l E M d mc ms post nx lv' [] τ (cu + mc') (su + ms')) : YY l E M d mc ms post pc lv st σ cu su := fun h hs =>
  x_callVH h0' hf hM hml hins hsel (hs b _ hL) hcl as hn hst hrest (hC h hs) hd hcu hsu (fun N h' hp => by obtain ⟨s, hs', e', rfl⟩ := hp; cases e'; exact ⟨i9, nx, hh, hi, hfr, by rw [hlv]; exact k h' hs'⟩) (fun w h' hp => by obtain ⟨s, hs', e', rfl⟩ := hp; cases e')
theorem z_callSW {z : Nat × Nat × Nat × Nat} {t : List (Nat × Nat × Nat × Nat)} (h0 : M.2.2.2.2 = []) (h0' : M'.2.2.2.2 = z :: t) (hf : decode M.2.1 pc = .ok (.invokestatic index, 3)) (hM : en_M M' na) (hml : Cond.methodLink M.1.cls index M'.1 ∈ WS) (hstt : Cond.static M'.1 ∈ WS) (hC : en_S l E M' d' mc' ms' as σ (pS v τ)) (hn : as.length = na) (hst : st = as.reverse ++ rest) (hrest : (rest.map fun v => v.category).sum ≤ 8) (hd : d' + 1 ≤ d) (hcu : cu + mc' ≤ mc) (hsu : su + ms' ≤ ms) (k : YY l E M d mc ms post (pc + 3) lv (v.toList ++ rest) τ (cu + mc') (su + ms')) : YY l E M d mc ms post pc lv st σ cu su := fun h hs =>
  x_callSW h0 h0' hf hM hml hstt as hn hst hrest (hC h hs) hd hcu hsu (fun N h' hp => by obtain ⟨s, _, e, _⟩ := hp; cases e) (fun w h' hp => by obtain ⟨s, hs', e, rfl⟩ := hp; cases e; exact k h' hs')
/-- the script's ints -/
def scr (xs : Nat → Int32) (i : Int) : Int := (xs i.toNat).toInt
theorem z_sald {L : Nat} {xs : Nat → Int32} (hx : E.2.2.2.2 0 = some (L, xs)) (hf : decode M.2.1 pc = .ok (.iaload, 1)) (hI : w32 X = x) (hn : (L : Int) = N) (hb : 0 ≤ x ∧ x < N) (hy : y = scr xs x) (k : YY l E M d mc ms post (pc + 1) lv (vi y :: st) σ cu su) : YY l E M d mc ms post pc lv (vi X :: vr 0 :: st) σ cu su := fun h hs =>
  x_sald hf (by decide) hx (vin_ok hI hn hb).1 (cs1 (by rw [(vin_ok hI hn hb).2, hy]; exact congrArg Value.int (Int32.ofInt_toInt _)) (k h hs))
theorem z_salen {L : Nat} {xs : Nat → Int32} (hx : E.2.2.2.2 0 = some (L, xs)) (hf : decode M.2.1 pc = .ok (.arraylength, 1)) (hn : (L : Int) = N) (k : YY l E M d mc ms post (pc + 1) lv (vi N :: st) σ cu su) : YY l E M d mc ms post pc lv (vr 0 :: st) σ cu su := fun h hs =>
  x_slen hf (by decide) hx (cs1 (by subst hn; exact congrArg Value.int Int32.ofInt_eq_ofNat) (k h hs))
end SLW
