section WRP
theorem en_mkW {l : Launch} {E : EE} {M : MRec} {d mc ms n : Nat} {post : Outc → HP → Prop} {as : List Value} {h : HP} {z : Nat × Nat × Nat × Nat} {t : List (Nat × Nat × Nat × Nat)} (hM : en_M M n) (h0 : M.2.2.2.2 = z :: t) (hl : l.stackTraces = false) (hn : (en_args as).length ≤ M.2.2.1) (hX : XX l E M d mc ms post 0 (en_pad M.2.2.1 (en_args as)) [] h 0 0) : en_C l E M d mc ms as h post := by
  refine vx_ofWH (cc := M.2.1) (maxL := M.2.2.1) (ret := M.2.2.2.1) (hh := M.2.2.2.2) hM.2.2.2.2.2 (by rw [en_hwc h0]) ?_
  intro p e s m args below meth c s₁ B hml hp
  obtain ⟨rfl, hR, hG⟩ := hp
  have hpre := fun w hw => atoms_spec (ws := en_hw M :: WS) B.pre w hw
  have K : en_K l E M p s m (as.map (en_v E)).toArray meth c := ⟨B.exec, B.bytes, hml, findClass_of_methodNamed B.named, fun w hw => hpre w (List.mem_cons_of_mem _ hw), hG, B.notSynchronized, B.returns, vx_table (x := M.1) B (by have := hpre _ List.mem_cons_self; rw [en_hwc h0] at this; exact this), (name_of_methodNamed B.named B.method).1, hl, by rw [hR.1]; exact Nat.le_add_right _ _⟩
  have hl9 := lv_entry (as.map (en_v E)) (n := M.2.2.1) (by rw [en_slen]; exact hn)
  rw [lg_entry_eq]
  refine hX p e s m _ below meth c s.heap [] _ K hR va_S.rf ⟨hl9.1, hl9.2.1, fun i v hv => ?_⟩
  have h1 := en_args_in E as 0 i v (en_pad_in _ _ i v hv)
  rw [Nat.zero_add] at h1
  exact hl9.2.2 _ h1
theorem en_L0 {E : EE} {nL : Nat} {lv : LVs} {ls ls' : Array Slot} {i : Nat} {v : Value} (_ : en_L E nL lv ls) (hc : en_fr lv i = true) (h9 : lv_has ls' nL ((i, v) :: (en_as E 0 lv).filter (fun q => !(q.1 == i) && !(q.1 + 1 == i && q.2.category == 2)))) : en_L E nL (lv.set i none) ls' := by
  refine ⟨h9.1, h9.2.1, fun j w hw => ?_⟩
  by_cases hj : i = j
  · subst hj
    rw [List.getElem?_set] at hw
    simp only [if_true] at hw
    split at hw <;> cases hw
  · rw [List.getElem?_set_ne hj] at hw
    refine h9.2.2 (j, en_v E w) (List.mem_cons_of_mem _ (List.mem_filter.mpr ⟨by have := en_as_in E lv 0 j w hw; rwa [Nat.zero_add] at this, ?_⟩))
    have e1 : (j == i) = false := by simp; omega
    by_cases hk : j + 1 = i
    · have := en_fr_spec hc hk hw
      simp [e1, en_cat, this]
    · simp [e1, hk]
/-- at pc a thrown N is caught by the row x of the table: its handler puts it into local i and goes on at nx -/
def en_hd (M : MRec) (pc : Nat) (N : String) (i nx : Nat) : Prop := ∃ (pre : List ExceptionTableEntry) (x : ExceptionTableEntry) (suf : List ExceptionTableEntry), tableOf M.2.2.2.2 = pre ++ x :: suf ∧
  (∀ z ∈ pre, covers z pc = false ∨ (z.catchType ≠ 0 ∧ ∃ nm : String, Cond.classLink M.1.cls z.catchType nm ∈ WS ∧ N ∈ en_ex ∧ nm ∈ en_ex ∧ N ≠ nm)) ∧ covers x pc = true ∧ x.catchType ≠ 0 ∧ Cond.classLink M.1.cls x.catchType N ∈ WS ∧ Cond.castable N N ∈ NW ∧
  ((decode M.2.1 x.handlerPc = .ok (.astore i, 2) ∧ nx = x.handlerPc + 2) ∨ (∃ k0 : Fin 4, (k0 : Nat) = i ∧ decode M.2.1 x.handlerPc = .ok (.astore_n k0, 1) ∧ nx = x.handlerPc + 1))
variable {l : Launch} {E : EE} {M M' : MRec} {d mc ms d' mc' ms' n : Nat} {post post' : Outc → HP → Prop} {pc : Nat} {lv : LVs} {st rest : List Value} {h : HP} {cu su : Nat} {index : Nat} {as : List Value}
theorem x_callVH {b ci N : Nat} {C : String} {T : u_T} {fs : List Value} (h0' : M'.2.2.2.2 = []) (hf : decode M.2.1 pc = .ok (.invokevirtual index, 3)) (hM : en_M M' n) (hml : Cond.methodLink M.1.cls index M'.1 ∈ WS) (hins : Cond.instanceMethod M'.1 ∈ WS) (hsel : Cond.selects C M'.1 M'.1 ∈ WS) (hb9 : ob h b = some (.inr (ci, fs))) (hcl : vwCl[ci]? = some (C, T, N)) (as : List Value) (hn : as.length = n) (hst : st = as.reverse ++ .ref b :: rest) (hrest : (rest.map fun v => v.category).sum ≤ 8)
    (hC : en_C l E M' d' mc' ms' (.ref b :: as) h post') (hd : d' + 1 ≤ d) (hcu : cu + mc' ≤ mc) (hsu : su + ms' ≤ ms) (kx : ∀ N h', post' (.inr N) h' → ∃ i nx, en_hd M pc N i nx ∧ i < M.2.2.1 ∧ en_fr lv i = true ∧ XX l E M d mc ms post nx (lv.set i none) [] h' (cu + mc') (su + ms')) (kk : ∀ v h', post' (.inl v) h' → XX l E M d mc ms post (pc + 3) lv (v.toList ++ rest) h' (cu + mc') (su + ms')) : XX l E M d mc ms post pc lv st h cu su := by
  intro p e s m args below meth c H locs ls K hR hS hL
  obtain ⟨hexec, hb, hml9, hown, hts, hG, hlk, hret, htab, hnm, hl, hbs⟩ := id K
  obtain ⟨qb, hqb, -⟩ := en_find hR hb9
  have cb : CallB (en_rm d mc ms) s args M.1.cls index M'.1 M'.2.1 M'.2.2.1 M'.2.2.2.1 (en_hw M' :: WS) (en_rm d' mc' ms') mc' ms' n :=
    callB_of n hts (en_good hM.1) (by rw [en_hw0 h0']) rfl rfl (hts _ hM.2.1) (hts _ hml) ⟨hM.2.2.1.1, hM.2.2.1.2, hM.2.2.2.1⟩ ⟨hd, by have := hM.2.2.2.2.1; show 8 + (M'.2.2.1 + 11) + 64 * d' ≤ 64 * d; omega⟩
  have hpre : PreV s H C (en_a E b) (en_P E (.ref b :: as) h) (as.map (en_v E)) := ⟨en_blind, va_recv hG.1 hR.2 hcl hqb, fun U hU hW => ⟨rfl, by rw [hU]; exact hR, en_G_to hG hW hbs (fun q h1 h2 => by rw [hU]; exact hS.2.1 q h1 h2)⟩⟩
  subst hst
  rw [List.map_append, List.map_reverse, List.map_cons]
  refine en_after (vx_runV ⟨hexec, hb, hml9, hown, hts⟩ hC ⟨cb, hts _ hins, hts _ hsel⟩ hpre rfl (by rw [List.length_map]; exact hn) hL.1 rfl (by rw [en_cats]; show 2 * 0 + _ ≤ 8; omega) hf ⟨hcu, hsu⟩) hS (fun N h' H1 locs1 q9 ce hp hR1 hS1 h1 h2 h3 => ?_) (fun v h' H1 locs1 hp hR1 hS1 => ?_)
  · obtain ⟨i, nx, ⟨pre, x, suf, t1, t2, t3, t4, t5, t6, t7⟩, hi, hfr, hX⟩ := kx N h' hp
    refine vx_catch hown pre x suf (htab.trans t1) (fun z hz => ?_) t3 t4 (hts _ t5) (va_Nw.use rfl (hG.2.1 _ t6)) h1 h2 h3 ?_
    · rcases t2 z hz with q | ⟨q1, nm, q2, q3, q4, q5⟩
      · exact Or.inl q
      · exact Or.inr ⟨q1, nm, hts _ q2, hG.2.2.2.2.1 N q3 nm q4 q5⟩
    · rcases t7 with ⟨g1, rfl⟩ | ⟨k0, rfl, g1, rfl⟩
      · exact lv_astore K.1 K.2.1 g1 (en_has hL) hi rfl (fun ls' h9 => hX p e s m args below meth c H1 locs1 ls' K hR1 hS1 (en_L0 hL hfr h9))
      · exact lv_astore_n K.1 K.2.1 g1 rfl (en_has hL) hi rfl (fun ls' h9 => hX p e s m args below meth c H1 locs1 ls' K hR1 hS1 (en_L0 hL hfr h9))
  · have k9 := kk v h' hp p e s m args below meth c H1 locs1 ls K hR1 hS1 hL
    rw [List.map_append] at k9
    rw [show (v.map (en_v E)).toList = v.toList.map (en_v E) by cases v <;> rfl]
    exact k9
/-- a static call of a method with handlers -/
theorem x_callSW {z : Nat × Nat × Nat × Nat} {t : List (Nat × Nat × Nat × Nat)} (h0 : M.2.2.2.2 = []) (h0' : M'.2.2.2.2 = z :: t) (hf : decode M.2.1 pc = .ok (.invokestatic index, 3)) (hM : en_M M' n) (hml : Cond.methodLink M.1.cls index M'.1 ∈ WS) (hstt : Cond.static M'.1 ∈ WS) (as : List Value) (hn : as.length = n) (hst : st = as.reverse ++ rest) (hrest : (rest.map fun v => v.category).sum ≤ 8)
    (hC : en_C l E M' d' mc' ms' as h post') (hd : d' + 1 ≤ d) (hcu : cu + mc' ≤ mc) (hsu : su + ms' ≤ ms) (kx : ∀ N h', post' (.inr N) h' → post (.inr N) h') (kk : ∀ v h', post' (.inl v) h' → XX l E M d mc ms post (pc + 3) lv (v.toList ++ rest) h' (cu + mc') (su + ms')) : XX l E M d mc ms post pc lv st h cu su := by
  intro p e s m args below meth c H locs ls K hR hS hL
  obtain ⟨hexec, hb, hml9, hown, hts, hG, hlk, hret, htab, hnm, hl, hbs⟩ := id K
  have hcw : Cond.codeWith M'.1 M'.2.1 M'.2.2.1 M'.2.2.2.1 M'.2.2.2.2 ∈ WS := by have := hM.1; rw [en_hwc h0'] at this; exact this
  have cb : vx_CSW (en_rm d mc ms) s args M.1.cls index M'.1 M'.2.1 M'.2.2.1 M'.2.2.2.1 M'.2.2.2.2 (en_hw M' :: WS) (en_rm d' mc' ms') mc' ms' n :=
    ⟨⟨rfl, rfl, hd, by have := hM.2.2.2.2.1; show 8 + (M'.2.2.1 + 11) + 64 * d' ≤ 64 * d; omega, pay_in hts (en_good hM.1), by rw [en_hwc h0']; exact List.mem_cons_self⟩, hts _ hcw, hts _ hM.2.1, hM.2.2.1, fun sig h9 => by
      have h2 := hM.2.2.2.1
      rw [h9] at h2
      exact (Option.some.inj h2).symm, hts _ hml, hts _ hstt⟩
  have hpre : PreS s H (en_P E as h) (as.map (en_v E)) := ⟨en_blind, fun U hU hW => ⟨rfl, by rw [hU]; exact hR, en_G_to hG hW hbs (fun q h1 h2 => by rw [hU]; exact hS.2.1 q h1 h2)⟩⟩
  subst hst
  rw [List.map_append, List.map_reverse]
  refine en_after (vx_runSX ⟨hexec, hb, hml9, hown, hts⟩ hC cb hpre rfl (by rw [List.length_map]; exact hn) hL.1 rfl (by rw [en_cats]; show 2 * 0 + _ ≤ 8; omega) hf ⟨hcu, hsu⟩) hS (fun N h' H1 locs1 q9 ce hp hR1 hS1 h1 h2 h3 => ?_) (fun v h' H1 locs1 hp hR1 hS1 => ?_)
  · exact vx_out (fun x hx => (en_tab0 K h0 x hx).elim) hlk h1 h2 h3 (fun t ht _ => ⟨h', kx N h' hp, by rw [ht]; exact hR1, hS1.F ht⟩) hS1.2.2 hcu hsu
  · have k9 := kk v h' hp p e s m args below meth c H1 locs1 ls K hR1 hS1 hL
    rw [List.map_append] at k9
    rw [show (v.map (en_v E)).toList = v.toList.map (en_v E) by cases v <;> rfl]
    exact k9
end WRP
