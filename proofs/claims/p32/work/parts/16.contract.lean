section CTR
theorem en_blind {E : EE} {as : List Value} {h : HP} : FrameBlind (en_P E as h) := by
  intro a U g mk ⟨h1, h2, h3⟩
  exact ⟨h1, h2, en_G_to (U := U.calling g mk a) h3 (State.WarmedH.refl U) (by rw [h2.1]; exact Nat.le_add_right _ _) (fun q _ _ => rfl)⟩
/-- the locals at a method's entry -/
def en_args (as : List Value) : LVs := match as with
  | [] => []
  | v :: t => if v.category = 2 then some v :: none :: en_args t else some v :: en_args t
theorem en_args_in (E : EE) : ∀ (as : List Value) (k i : Nat) (v : Value), (en_args as)[i]? = some (some v) → (k + i, en_v E v) ∈ lv_args k (as.map (en_v E)) := by
  intro as
  induction as with
  | nil => intro k i v h; simp [en_args] at h
  | cons x t ih =>
    intro k i v h
    have hc := en_cat E x
    by_cases q : x.category = 2
    · simp only [en_args, if_pos q] at h
      simp only [List.map_cons, lv_args, hc, if_pos q]
      match i, h with
      | 0, h =>
        simp only [List.getElem?_cons_zero, Option.some.injEq] at h
        subst h
        exact List.mem_cons_self
      | 1, h => simp at h
      | i + 2, h =>
        simp only [List.getElem?_cons_succ] at h
        have := ih (k + 2) i v h
        rw [show k + 2 + i = k + (i + 2) by omega] at this
        exact List.mem_cons_of_mem _ this
    · simp only [en_args, if_neg q] at h
      simp only [List.map_cons, lv_args, hc, if_neg q]
      match i, h with
      | 0, h =>
        simp only [List.getElem?_cons_zero, Option.some.injEq] at h
        subst h
        exact List.mem_cons_self
      | i + 1, h =>
        simp only [List.getElem?_cons_succ] at h
        have := ih (k + 1) i v h
        rw [show k + 1 + i = k + (i + 1) by omega] at this
        exact List.mem_cons_of_mem _ this
/-- what the tables say of a method that is called -/
def en_M (M : MRec) (n : Nat) : Prop := en_hw M ∈ WS ∧ Cond.initialized M.1.cls ∈ WS ∧ (M.1.cls ≠ "java/lang/invoke/MethodHandle" ∧ M.1.cls ≠ "java/lang/invoke/VarHandle") ∧ (parseMethodDescriptor M.1.desc).map (fun d => d.parameters.length) = some n ∧ M.2.2.1 ≤ 45 ∧ plainName M.1.cls = true
theorem en_good {w : Cond} (hw : w ∈ WS) : GoodIn WS (w :: WS) := by
  intro w' h
  have h1 : w' ∈ WS := by
    rcases List.mem_cons.mp h with rfl | h
    · exact hw
    · exact h
  exact ⟨h1, good_of_word (List.mem_filter.mp h1).2⟩
theorem en_slen (E : EE) (as : List Value) : (lg_sl (as.map (en_v E))).length = (en_args as).length := by
  induction as with
  | nil => rfl
  | cons x t ih =>
    simp only [lg_sl, List.map_cons, List.flatMap_cons, List.length_append] at ih ⊢
    rw [ih]
    by_cases q : x.category = 2
    · simp only [en_args, if_pos q, en_cat, List.length_cons, List.length_nil]; omega
    · simp only [en_args, if_neg q, en_cat, List.length_cons, List.length_nil]; omega
/-- the locals, as many as the method has -/
def en_pad (n : Nat) (l : LVs) : LVs := match n, l with
  | 0, _ => []
  | n + 1, [] => none :: en_pad n []
  | n + 1, x :: t => x :: en_pad n t
theorem en_pad_in : ∀ (n : Nat) (l : LVs) (i : Nat) (v : Value), (en_pad n l)[i]? = some (some v) → l[i]? = some (some v) := by
  intro n
  induction n with
  | zero => intro l i v h; simp [en_pad] at h
  | succ n ih =>
    intro l i v h
    cases l with
    | nil =>
      cases i with
      | zero => simp [en_pad] at h
      | succ i =>
        simp only [en_pad, List.getElem?_cons_succ] at h
        have := ih [] i v h
        simp at this
    | cons x t =>
      cases i with
      | zero => simpa [en_pad] using h
      | succ i =>
        simp only [en_pad, List.getElem?_cons_succ] at h ⊢
        exact ih t i v h
/-- a contract out of a walk -/
theorem en_mk {l : Launch} {E : EE} {M : MRec} {d mc ms n : Nat} {post : Outc → HP → Prop} {as : List Value} {h : HP} (hM : en_M M n) (h0 : M.2.2.2.2 = []) (hl : l.stackTraces = false) (hn : (en_args as).length ≤ M.2.2.1) (hX : XX l E M d mc ms post 0 (en_pad M.2.2.1 (en_args as)) [] h 0 0) : en_C l E M d mc ms as h post := by
  refine vx_ofW (cc := M.2.1) (maxL := M.2.2.1) (ret := M.2.2.2.1) hM.2.2.2.2.2 (by rw [en_hw0 h0]) ?_
  intro p e s m args below meth c s₁ B hml htab hp
  obtain ⟨rfl, hR, hG⟩ := hp
  have K : en_K l E M p s m (as.map (en_v E)).toArray meth c := ⟨B.exec, B.bytes, hml, findClass_of_methodNamed B.named, fun w hw => atoms_spec (ws := en_hw M :: WS) B.pre w (List.mem_cons_of_mem _ hw), hG, B.notSynchronized, B.returns, by rw [h0]; exact List.eq_nil_iff_forall_not_mem.mpr htab, (name_of_methodNamed B.named B.method).1, hl, by rw [hR.1]; exact Nat.le_add_right _ _⟩
  have hl9 := lv_entry (as.map (en_v E)) (n := M.2.2.1) (by rw [en_slen]; exact hn)
  rw [lg_entry_eq]
  refine hX p e s m _ below meth c s.heap [] _ K hR va_S.rf ⟨hl9.1, hl9.2.1, fun i v hv => ?_⟩
  have h1 := en_args_in E as 0 i v (en_pad_in _ _ i v hv)
  rw [Nat.zero_add] at h1
  exact hl9.2.2 _ h1
section AFT
variable {p : Program} {l : Launch} {e : Env} {R : Room} {s : State} {m : MethodId} {args : Array Value} {below : List Frame} {meth : Method} {c : Code} {H : Heap} {locs : List Loc} {cu su mc' ms' : Nat} {Q : State → Prop} {E : EE} {post' : Outc → HP → Prop} {a' : Array Value} {pc : Nat} {ls : Array Slot} {st0 rest : List Value}
theorem en_after (hr : vx_Run p l e R s m args below meth c H locs cu su mc' ms' (F0 m pc ls st0) rest (en_Q E post' a') (en_XC E post') (en_A E)) (hS : va_S (en_A E) s.heap H locs)
    (kx : ∀ (N : String) (h' : HP) (H1 : Heap) (locs1 : List Loc) (q9 : Addr) (ce : Cell), post' (.inr N) h' → en_R E h' H1 → va_S (en_A E) s.heap H1 locs1 → H1[q9]? = some ce → ce.vm = .none → s.vm.findClass N = some ce.cls → vx_W p l e R s m args below meth c H1 locs1 (cu + mc') (su + ms') Q (F0 m pc ls rest) q9)
    (kk : ∀ (v : Option Value) (h' : HP) (H1 : Heap) (locs1 : List Loc), post' (.inl v) h' → en_R E h' H1 → va_S (en_A E) s.heap H1 locs1 → W p l e R s m args below meth c H1 locs1 (cu + mc') (su + ms') Q (F0 m (pc + 3) ls ((v.map (en_v E)).toList ++ rest))) : W p l e R s m args below meth c H locs cu su Q (F0 m pc ls st0) := by
  intro T hT X
  rcases hr T hT X with ⟨v, st₀, t, T', L, h0, X', hL, e1, e2, ⟨v', h', hv, hp, hR', hF⟩, st⟩ | ⟨q, st₀, t, T', L, N, ce, h0, X', hL, e1, e2, ⟨h', hp, hR', hF⟩, hce, hcv, hcl, st⟩
  · obtain ⟨-, -, k3⟩ := vx_keep h0 e1 hS (fun _ _ h => h) (fun _ h => h) hL hF
    have hv2 : v = v'.map (en_v E) := by cases hv; rfl
    obtain ⟨t2, a1, b1⟩ := kk v' h' T'.heap (locs ++ L) hp (by rw [e1]; exact hR') k3 T' rfl X'
    rw [← hv2] at a1
    exact ⟨t2, st t2 a1, b1⟩
  · obtain ⟨-, -, k3⟩ := vx_keep h0 e1 hS (fun _ _ h => h) (fun _ h => h) hL hF
    obtain ⟨t2, a1, b1⟩ := kx N h' T'.heap (locs ++ L) q ce hp (by rw [e1]; exact hR') k3 (by rw [e1]; exact hce) hcv hcl T' rfl X'
    exact ⟨t2, st.trans a1, b1⟩
end AFT
variable {l : Launch} {E : EE} {M M' : MRec} {d mc ms d' mc' ms' n : Nat} {post post' : Outc → HP → Prop} {pc : Nat} {lv : LVs} {st rest : List Value} {h : HP} {cu su : Nat} {index : Nat} {as : List Value}
theorem en_cats (E : EE) (l : List Value) : ((l.map (en_v E)).map fun v => v.category).sum = (l.map fun v => v.category).sum := by
  rw [List.map_map]; congr 1; exact List.map_congr_left (fun v _ => en_cat E v)
theorem x_callS (h0 : M.2.2.2.2 = []) (h0' : M'.2.2.2.2 = []) (hf : decode M.2.1 pc = .ok (.invokestatic index, 3)) (hM : en_M M' n) (hml : Cond.methodLink M.1.cls index M'.1 ∈ WS) (hstt : Cond.static M'.1 ∈ WS) (as : List Value) (hn : as.length = n) (hst : st = as.reverse ++ rest) (hrest : (rest.map fun v => v.category).sum ≤ 8)
    (hC : en_C l E M' d' mc' ms' as h post') (hd : d' + 1 ≤ d) (hcu : cu + mc' ≤ mc) (hsu : su + ms' ≤ ms) (kx : ∀ N h', post' (.inr N) h' → post (.inr N) h') (kk : ∀ v h', post' (.inl v) h' → XX l E M d mc ms post (pc + 3) lv (v.toList ++ rest) h' (cu + mc') (su + ms')) : XX l E M d mc ms post pc lv st h cu su := by
  intro p e s m args below meth c H locs ls K hR hS hL
  obtain ⟨hexec, hb, hml9, hown, hts, hG, hlk, hret, htab, hnm, hl, hbs⟩ := id K
  have cb : CallB (en_rm d mc ms) s args M.1.cls index M'.1 M'.2.1 M'.2.2.1 M'.2.2.2.1 (en_hw M' :: WS) (en_rm d' mc' ms') mc' ms' n :=
    callB_of n hts (en_good hM.1) (by rw [en_hw0 h0']) rfl rfl (hts _ hM.2.1) (hts _ hml) ⟨hM.2.2.1.1, hM.2.2.1.2, hM.2.2.2.1⟩ ⟨hd, by have := hM.2.2.2.2.1; show 8 + (M'.2.2.1 + 11) + 64 * d' ≤ 64 * d; omega⟩
  have hpre : PreS s H (en_P E as h) (as.map (en_v E)) := ⟨en_blind, fun U hU hW => ⟨rfl, by rw [hU]; exact hR, en_G_to hG hW hbs (fun q h1 h2 => by rw [hU]; exact hS.2.1 q h1 h2)⟩⟩
  subst hst
  rw [List.map_append, List.map_reverse]
  refine en_after (vx_runS ⟨hexec, hb, hml9, hown, hts⟩ hC ⟨cb, hts _ hstt⟩ hpre rfl (by rw [List.length_map]; exact hn) hL.1 rfl (by rw [en_cats]; show 2 * 0 + _ ≤ 8; omega) hf ⟨hcu, hsu⟩) hS (fun N h' H1 locs1 q9 ce hp hR1 hS1 h1 h2 h3 => ?_) (fun v h' H1 locs1 hp hR1 hS1 => ?_)
  · exact vx_out (fun x hx => (en_tab0 K h0 x hx).elim) hlk h1 h2 h3 (fun t ht _ => ⟨h', kx N h' hp, by rw [ht]; exact hR1, hS1.F ht⟩) hS1.2.2 hcu hsu
  · have k9 := kk v h' hp p e s m args below meth c H1 locs1 ls K hR1 hS1 hL
    rw [List.map_append] at k9
    rw [show (v.map (en_v E)).toList = v.toList.map (en_v E) by cases v <;> rfl]
    exact k9
theorem x_callV {b ci N : Nat} {C : String} {T : u_T} {fs : List Value} (h0 : M.2.2.2.2 = []) (h0' : M'.2.2.2.2 = []) (hf : decode M.2.1 pc = .ok (.invokevirtual index, 3)) (hM : en_M M' n) (hml : Cond.methodLink M.1.cls index M'.1 ∈ WS) (hins : Cond.instanceMethod M'.1 ∈ WS) (hsel : Cond.selects C M'.1 M'.1 ∈ WS) (hb9 : ob h b = some (.inr (ci, fs))) (hcl : vwCl[ci]? = some (C, T, N)) (as : List Value) (hn : as.length = n) (hst : st = as.reverse ++ .ref b :: rest) (hrest : (rest.map fun v => v.category).sum ≤ 8)
    (hC : en_C l E M' d' mc' ms' (.ref b :: as) h post') (hd : d' + 1 ≤ d) (hcu : cu + mc' ≤ mc) (hsu : su + ms' ≤ ms) (kx : ∀ N h', post' (.inr N) h' → post (.inr N) h') (kk : ∀ v h', post' (.inl v) h' → XX l E M d mc ms post (pc + 3) lv (v.toList ++ rest) h' (cu + mc') (su + ms')) : XX l E M d mc ms post pc lv st h cu su := by
  intro p e s m args below meth c H locs ls K hR hS hL
  obtain ⟨hexec, hb, hml9, hown, hts, hG, hlk, hret, htab, hnm, hl, hbs⟩ := id K
  obtain ⟨qb, hqb, -⟩ := en_find hR hb9
  have cb : CallB (en_rm d mc ms) s args M.1.cls index M'.1 M'.2.1 M'.2.2.1 M'.2.2.2.1 (en_hw M' :: WS) (en_rm d' mc' ms') mc' ms' n :=
    callB_of n hts (en_good hM.1) (by rw [en_hw0 h0']) rfl rfl (hts _ hM.2.1) (hts _ hml) ⟨hM.2.2.1.1, hM.2.2.1.2, hM.2.2.2.1⟩ ⟨hd, by have := hM.2.2.2.2.1; show 8 + (M'.2.2.1 + 11) + 64 * d' ≤ 64 * d; omega⟩
  have hpre : PreV s H C (en_a E b) (en_P E (.ref b :: as) h) (as.map (en_v E)) := ⟨en_blind, va_recv hG.1 hR.2 hcl hqb, fun U hU hW => ⟨rfl, by rw [hU]; exact hR, en_G_to hG hW hbs (fun q h1 h2 => by rw [hU]; exact hS.2.1 q h1 h2)⟩⟩
  subst hst
  rw [List.map_append, List.map_reverse, List.map_cons]
  refine en_after (vx_runV ⟨hexec, hb, hml9, hown, hts⟩ hC ⟨cb, hts _ hins, hts _ hsel⟩ hpre rfl (by rw [List.length_map]; exact hn) hL.1 rfl (by rw [en_cats]; show 2 * 0 + _ ≤ 8; omega) hf ⟨hcu, hsu⟩) hS (fun N h' H1 locs1 q9 ce hp hR1 hS1 h1 h2 h3 => ?_) (fun v h' H1 locs1 hp hR1 hS1 => ?_)
  · exact vx_out (fun x hx => (en_tab0 K h0 x hx).elim) hlk h1 h2 h3 (fun t ht _ => ⟨h', kx N h' hp, by rw [ht]; exact hR1, hS1.F ht⟩) hS1.2.2 hcu hsu
  · have k9 := kk v h' hp p e s m args below meth c H1 locs1 ls K hR1 hS1 hL
    rw [List.map_append] at k9
    rw [show (v.map (en_v E)).toList = v.toList.map (en_v E) by cases v <;> rfl]
    exact k9
theorem x_callI {b : Nat} (h0 : M.2.2.2.2 = []) (h0' : M'.2.2.2.2 = []) (hf : decode M.2.1 pc = .ok (.invokespecial index, 3)) (hM : en_M M' n) (hret0 : M'.2.2.2.1 = none) (hnm0 : M'.1.name = "<init>") (hml : Cond.methodLink M.1.cls index M'.1 ∈ WS) (hins : Cond.instanceMethod M'.1 ∈ WS) (as : List Value) (hn : as.length = n) (hst : st = as.reverse ++ .ref b :: rest) (hrest : (rest.map fun v => v.category).sum ≤ 8)
    (hC : en_C l E M' d' mc' ms' (.ref b :: as) h post') (hd : d' + 1 ≤ d) (hcu : cu + mc' ≤ mc) (hsu : su + ms' ≤ ms) (kx : ∀ N h', post' (.inr N) h' → post (.inr N) h') (kk : ∀ v h', post' (.inl v) h' → XX l E M d mc ms post (pc + 3) lv (v.toList ++ rest) h' (cu + mc') (su + ms')) : XX l E M d mc ms post pc lv st h cu su := by
  intro p e s m args below meth c H locs ls K hR hS hL
  obtain ⟨hexec, hb, hml9, hown, hts, hG, hlk, hret, htab, hnm, hl, hbs⟩ := id K
  have cb : CallB (en_rm d mc ms) s args M.1.cls index M'.1 M'.2.1 M'.2.2.1 none (en_hw M' :: WS) (en_rm d' mc' ms') mc' ms' n :=
    callB_of n hts (en_good hM.1) (by rw [en_hw0 h0', hret0]) rfl rfl (hts _ hM.2.1) (hts _ hml) ⟨hM.2.2.1.1, hM.2.2.1.2, hM.2.2.2.1⟩ ⟨hd, by have := hM.2.2.2.2.1; show 8 + (M'.2.2.1 + 11) + 64 * d' ≤ 64 * d; omega⟩
  have hpre : PreS s H (en_P E (.ref b :: as) h) (.ref (en_a E b) :: as.map (en_v E)) := ⟨en_blind, fun U hU hW => ⟨rfl, by rw [hU]; exact hR, en_G_to hG hW hbs (fun q h1 h2 => by rw [hU]; exact hS.2.1 q h1 h2)⟩⟩
  subst hst
  rw [List.map_append, List.map_reverse, List.map_cons]
  refine en_after (vx_runI ⟨hexec, hb, hml9, hown, hts⟩ hC ⟨cb, hnm0, hts _ hins⟩ hpre rfl (by rw [List.length_map]; exact hn) hL.1 rfl (by rw [en_cats]; show 2 * 0 + _ ≤ 8; omega) hf ⟨hcu, hsu⟩) hS (fun N h' H1 locs1 q9 ce hp hR1 hS1 h1 h2 h3 => ?_) (fun v h' H1 locs1 hp hR1 hS1 => ?_)
  · exact vx_out (fun x hx => (en_tab0 K h0 x hx).elim) hlk h1 h2 h3 (fun t ht _ => ⟨h', kx N h' hp, by rw [ht]; exact hR1, hS1.F ht⟩) hS1.2.2 hcu hsu
  · have k9 := kk v h' hp p e s m args below meth c H1 locs1 ls K hR1 hS1 hL
    rw [List.map_append] at k9
    rw [show (v.map (en_v E)).toList = v.toList.map (en_v E) by cases v <;> rfl]
    exact k9
end CTR
