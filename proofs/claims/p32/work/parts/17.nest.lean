section NST
variable {l : Launch} {E : EE} {M M' : MRec} {d mc ms d' mc' ms' n : Nat} {post post' : Outc → HP → Prop} {pc : Nat} {lv : LVs} {st rest : List Value} {h : HP} {cu su : Nat} {index : Nat} {as : List Value}

theorem x_callSN (h0 : M.2.2.2.2 = []) (h0' : M'.2.2.2.2 = []) (hf : decode M.2.1 pc = .ok (.invokestatic index, 3)) (hM : en_M M' n) {host : String} (hml : Cond.methodLinkNest M.1.cls index M'.1 host ∈ NW) (hstt : Cond.static M'.1 ∈ WS) (as : List Value) (hn : as.length = n) (hst : st = as.reverse ++ rest) (hrest : (rest.map fun v => v.category).sum ≤ 8)
    (hC : en_C l E M' d' mc' ms' as h post') (hd : d' + 1 ≤ d) (hcu : cu + mc' ≤ mc) (hsu : su + ms' ≤ ms) (kx : ∀ N h', post' (.inr N) h' → post (.inr N) h') (kk : ∀ v h', post' (.inl v) h' → XX l E M d mc ms post (pc + 3) lv (v.toList ++ rest) h' (cu + mc') (su + ms')) : XX l E M d mc ms post pc lv st h cu su := by
  intro p e s m args below meth c H locs ls K hR hS hL
  obtain ⟨hexec, hb, hml9, hown, hts, hG, hlk, hret, htab, hnm, hl, hbs⟩ := id K
  have cb : va_CN (en_rm d mc ms) s args M.1.cls index M'.1 host M'.2.1 M'.2.2.1 M'.2.2.2.1 (en_hw M' :: WS) (en_rm d' mc' ms') mc' ms' n :=
    va_cnB n hts (en_good hM.1) (by rw [en_hw0 h0']) rfl rfl (hG.2.1 _ hml) (hts _ hM.2.1) ⟨hM.2.2.1.1, hM.2.2.1.2, hM.2.2.2.1⟩ ⟨hd, by have := hM.2.2.2.2.1; show 8 + (M'.2.2.1 + 11) + 64 * d' ≤ 64 * d; omega⟩
  have hpre : PreS s H (en_P E as h) (as.map (en_v E)) := ⟨en_blind, fun U hU hW => ⟨rfl, by rw [hU]; exact hR, en_G_to hG hW hbs (fun q h1 h2 => by rw [hU]; exact hS.2.1 q h1 h2)⟩⟩
  subst hst
  rw [List.map_append, List.map_reverse]
  refine en_after (vx_runSN ⟨hexec, hb, hml9, hown, hts⟩ hC ⟨cb, hts _ hstt, trivial⟩ hpre rfl (by rw [List.length_map]; exact hn) hL.1 rfl (by rw [en_cats]; show 2 * 0 + _ ≤ 8; omega) hf ⟨hcu, hsu⟩) hS (fun N h' H1 locs1 q9 ce hp hR1 hS1 h1 h2 h3 => ?_) (fun v h' H1 locs1 hp hR1 hS1 => ?_)
  · exact vx_out (fun x hx => (en_tab0 K h0 x hx).elim) hlk h1 h2 h3 (fun t ht _ => ⟨h', kx N h' hp, by rw [ht]; exact hR1, hS1.F ht⟩) hS1.2.2 hcu hsu
  · have k9 := kk v h' hp p e s m args below meth c H1 locs1 ls K hR1 hS1 hL
    rw [List.map_append] at k9
    rw [show (v.map (en_v E)).toList = v.toList.map (en_v E) by cases v <;> rfl]
    exact k9
theorem x_callVN {b ci N : Nat} {C : String} {T : u_T} {fs : List Value} (h0 : M.2.2.2.2 = []) (h0' : M'.2.2.2.2 = []) (hf : decode M.2.1 pc = .ok (.invokevirtual index, 3)) (hM : en_M M' n) {host : String} (hml : Cond.methodLinkNest M.1.cls index M'.1 host ∈ NW) (hins : Cond.instanceMethod M'.1 ∈ WS) (hsel : Cond.selects C M'.1 M'.1 ∈ WS) (hb9 : ob h b = some (.inr (ci, fs))) (hcl : vwCl[ci]? = some (C, T, N)) (as : List Value) (hn : as.length = n) (hst : st = as.reverse ++ .ref b :: rest) (hrest : (rest.map fun v => v.category).sum ≤ 8)
    (hC : en_C l E M' d' mc' ms' (.ref b :: as) h post') (hd : d' + 1 ≤ d) (hcu : cu + mc' ≤ mc) (hsu : su + ms' ≤ ms) (kx : ∀ N h', post' (.inr N) h' → post (.inr N) h') (kk : ∀ v h', post' (.inl v) h' → XX l E M d mc ms post (pc + 3) lv (v.toList ++ rest) h' (cu + mc') (su + ms')) : XX l E M d mc ms post pc lv st h cu su := by
  intro p e s m args below meth c H locs ls K hR hS hL
  obtain ⟨hexec, hb, hml9, hown, hts, hG, hlk, hret, htab, hnm, hl, hbs⟩ := id K
  obtain ⟨qb, hqb, -⟩ := en_find hR hb9
  have cb : va_CN (en_rm d mc ms) s args M.1.cls index M'.1 host M'.2.1 M'.2.2.1 M'.2.2.2.1 (en_hw M' :: WS) (en_rm d' mc' ms') mc' ms' n :=
    va_cnB n hts (en_good hM.1) (by rw [en_hw0 h0']) rfl rfl (hG.2.1 _ hml) (hts _ hM.2.1) ⟨hM.2.2.1.1, hM.2.2.1.2, hM.2.2.2.1⟩ ⟨hd, by have := hM.2.2.2.2.1; show 8 + (M'.2.2.1 + 11) + 64 * d' ≤ 64 * d; omega⟩
  have hpre : PreV s H C (en_a E b) (en_P E (.ref b :: as) h) (as.map (en_v E)) := ⟨en_blind, va_recv hG.1 hR.2 hcl hqb, fun U hU hW => ⟨rfl, by rw [hU]; exact hR, en_G_to hG hW hbs (fun q h1 h2 => by rw [hU]; exact hS.2.1 q h1 h2)⟩⟩
  subst hst
  rw [List.map_append, List.map_reverse, List.map_cons]
  refine en_after (vx_runVN ⟨hexec, hb, hml9, hown, hts⟩ hC ⟨cb, hts _ hins, hts _ hsel⟩ hpre rfl (by rw [List.length_map]; exact hn) hL.1 rfl (by rw [en_cats]; show 2 * 0 + _ ≤ 8; omega) hf ⟨hcu, hsu⟩) hS (fun N h' H1 locs1 q9 ce hp hR1 hS1 h1 h2 h3 => ?_) (fun v h' H1 locs1 hp hR1 hS1 => ?_)
  · exact vx_out (fun x hx => (en_tab0 K h0 x hx).elim) hlk h1 h2 h3 (fun t ht _ => ⟨h', kx N h' hp, by rw [ht]; exact hR1, hS1.F ht⟩) hS1.2.2 hcu hsu
  · have k9 := kk v h' hp p e s m args below meth c H1 locs1 ls K hR1 hS1 hL
    rw [List.map_append] at k9
    rw [show (v.map (en_v E)).toList = v.toList.map (en_v E) by cases v <;> rfl]
    exact k9
theorem x_callIN {b : Nat} (h0 : M.2.2.2.2 = []) (h0' : M'.2.2.2.2 = []) (hf : decode M.2.1 pc = .ok (.invokespecial index, 3)) (hM : en_M M' n) (hret0 : M'.2.2.2.1 = none) (hnm0 : M'.1.name = "<init>") {host : String} (hml : Cond.methodLinkNest M.1.cls index M'.1 host ∈ NW) (hins : Cond.instanceMethod M'.1 ∈ WS) (as : List Value) (hn : as.length = n) (hst : st = as.reverse ++ .ref b :: rest) (hrest : (rest.map fun v => v.category).sum ≤ 8)
    (hC : en_C l E M' d' mc' ms' (.ref b :: as) h post') (hd : d' + 1 ≤ d) (hcu : cu + mc' ≤ mc) (hsu : su + ms' ≤ ms) (kx : ∀ N h', post' (.inr N) h' → post (.inr N) h') (kk : ∀ v h', post' (.inl v) h' → XX l E M d mc ms post (pc + 3) lv (v.toList ++ rest) h' (cu + mc') (su + ms')) : XX l E M d mc ms post pc lv st h cu su := by
  intro p e s m args below meth c H locs ls K hR hS hL
  obtain ⟨hexec, hb, hml9, hown, hts, hG, hlk, hret, htab, hnm, hl, hbs⟩ := id K
  have cb : va_CN (en_rm d mc ms) s args M.1.cls index M'.1 host M'.2.1 M'.2.2.1 none (en_hw M' :: WS) (en_rm d' mc' ms') mc' ms' n :=
    va_cnB n hts (en_good hM.1) (by rw [en_hw0 h0', hret0]) rfl rfl (hG.2.1 _ hml) (hts _ hM.2.1) ⟨hM.2.2.1.1, hM.2.2.1.2, hM.2.2.2.1⟩ ⟨hd, by have := hM.2.2.2.2.1; show 8 + (M'.2.2.1 + 11) + 64 * d' ≤ 64 * d; omega⟩
  have hpre : PreS s H (en_P E (.ref b :: as) h) (.ref (en_a E b) :: as.map (en_v E)) := ⟨en_blind, fun U hU hW => ⟨rfl, by rw [hU]; exact hR, en_G_to hG hW hbs (fun q h1 h2 => by rw [hU]; exact hS.2.1 q h1 h2)⟩⟩
  subst hst
  rw [List.map_append, List.map_reverse, List.map_cons]
  refine en_after (vx_runIN ⟨hexec, hb, hml9, hown, hts⟩ hC ⟨cb, hnm0, hts _ hins⟩ hpre rfl (by rw [List.length_map]; exact hn) hL.1 rfl (by rw [en_cats]; show 2 * 0 + _ ≤ 8; omega) hf ⟨hcu, hsu⟩) hS (fun N h' H1 locs1 q9 ce hp hR1 hS1 h1 h2 h3 => ?_) (fun v h' H1 locs1 hp hR1 hS1 => ?_)
  · exact vx_out (fun x hx => (en_tab0 K h0 x hx).elim) hlk h1 h2 h3 (fun t ht _ => ⟨h', kx N h' hp, by rw [ht]; exact hR1, hS1.F ht⟩) hS1.2.2 hcu hsu
  · have k9 := kk v h' hp p e s m args below meth c H1 locs1 ls K hR1 hS1 hL
    rw [List.map_append] at k9
    rw [show (v.map (en_v E)).toList = v.toList.map (en_v E) by cases v <;> rfl]
    exact k9
/-- a call that a handler of this method may catch; the table's rows ahead name other exceptions -/
theorem ws_t {w : Cond} (i : Nat) (h : tables_1[i]? = some w) (hg : goodWord w = true) : w ∈ WS := List.mem_filter.mpr ⟨List.mem_append_right _ (List.mem_of_getElem? h), hg⟩
theorem nw_t {w : Cond} (i : Nat) (h : tables_1[i]? = some w) (hg : en_nest w = true) : w ∈ NW := List.mem_filter.mpr ⟨List.mem_of_getElem? h, hg⟩
theorem ws_s {q : MethodName × Nat} (i : Nat) (h : lw_privs[i]? = some q) : Cond.selects q.1.cls q.1 q.1 ∈ WS := List.mem_filter.mpr ⟨List.mem_append_left _ (List.mem_map.mpr ⟨q, List.mem_of_getElem? h, rfl⟩), rfl⟩
theorem ws_u {C : String} {T : u_T} {N : Nat} (ps : List Nat) (h : u_ws C T N = ps.filterMap (fun i => tables_1[i]?)) (hg : (u_ws C T N).all goodWord = true) : ∀ w ∈ u_ws C T N, w ∈ WS := by
  intro w hw
  have h1 := List.all_eq_true.mp hg w hw
  rw [h] at hw
  obtain ⟨i, -, hi⟩ := List.mem_filterMap.mp hw
  exact ws_t i hi h1
end NST
