section HPR
abbrev PEnt : Type := (Nat × vp_A) ⊕ (Nat × List Value)
/-- what the object with this number holds -/
def ob (h : HP) (a : Nat) : Option PEnt := if a < 32 then none else (h[a - 32]?).join
def stt (h : HP) (a : Nat) (e : PEnt) : HP := h.set (a - 32) (some e)
theorem ob_at {h : HP} {a : Nat} {e : PEnt} (hh : ob h a = some e) : ¬ a < 32 ∧ h[a - 32]? = some (some e) := by
  unfold ob at hh
  by_cases q : a < 32
  · rw [if_pos q] at hh; cases hh
  · rw [if_neg q] at hh
    refine ⟨q, ?_⟩
    cases hx : h[a - 32]? with
    | none => rw [hx] at hh; cases hh
    | some x => rw [hx] at hh; exact congrArg some hh
theorem ob_self {h : HP} {a : Nat} {e e' : PEnt} (hh : ob h a = some e) : ob (stt h a e') a = some e' := by
  obtain ⟨h1, h2⟩ := ob_at hh
  unfold ob stt
  rw [if_neg h1, List.getElem?_set_self (List.getElem?_eq_some_iff.mp h2).1]
  rfl
theorem ob_ne {h : HP} {a b : Nat} {e : PEnt} (n : a ≠ b) (ha : ¬ a < 32) : ob (stt h a e) b = ob h b := by
  unfold ob stt
  by_cases q : b < 32
  · rw [if_pos q, if_pos q]
  · rw [if_neg q, if_neg q, List.getElem?_set_ne (by omega)]
theorem stt_len {h : HP} {a : Nat} {e : PEnt} : (stt h a e).length = h.length := List.length_set
theorem ob_app {h : HP} {a : Nat} {e : PEnt} (t : HP) (hh : ob h a = some e) : ob (h ++ t) a = some e := by
  obtain ⟨h1, h2⟩ := ob_at hh
  unfold ob
  rw [if_neg h1, List.getElem?_append_left (List.getElem?_eq_some_iff.mp h2).1, h2]
  rfl
theorem ob_new {h : HP} {e : PEnt} : ob (h ++ [some e]) (32 + h.length) = some e := by
  unfold ob
  rw [if_neg (by omega), Nat.add_sub_cancel_left, List.getElem?_append_right (Nat.le_refl _), Nat.sub_self]
  rfl
theorem en_a_dyn {E : EE} {a : Nat} (h : ¬ a < 32) : en_a E a = en_b E + (a - 32) := if_neg h
theorem en_a_new {E : EE} {h : HP} : en_a E (32 + h.length) = en_b E + h.length := by
  rw [en_a_dyn (by omega), Nat.add_sub_cancel_left]
/-- what the tables say of a class -/
def en_CL (ci : Nat) (C : String) (T : u_T) (N : Nat) (ty : Nat → FieldType) : Prop := vwCl[ci]? = some (C, T, N) ∧ (∀ w ∈ u_ws C T N, w ∈ WS) ∧ Cond.instantiable C N ∈ WS ∧ Cond.initialized C ∈ WS ∧
  (∀ a, a < N → ∀ b, b < N → a ≠ b → (T a).2.1 ≠ (T b).2.1) ∧ (∀ k, k < N → parseFieldDescriptor (T k).2.2.1 = some (ty k))
theorem en_find {E : EE} {h : HP} {H : Heap} {a : Nat} {e : PEnt} (hR : en_R E h H) (hh : ob h a = some e) : ∃ q : Nat, (en_w E (en_b E) h)[q]? = some (en_a E a, en_e E e) ∧ ∀ e', (en_w E (en_b E) h).set q (en_a E a, en_e E e') = en_w E (en_b E) (stt h a e') := by
  obtain ⟨h1, h2⟩ := ob_at hh
  rw [en_a_dyn h1]
  exact en_pos E h (en_b E) (a - 32) e h2
theorem en_put {E : EE} {h : HP} {H H1 : Heap} {a : Nat} {e e' : PEnt} (hR : en_R E h H) (hh : ob h a = some e) (hz : H1.size = H.size) (hv : va_at E.1 vwCl (en_a E a, en_e E e') H1) (ho : ∀ q : Nat, q ≠ en_a E a → H1[q]? = H[q]?) : en_R E (stt h a e') H1 := by
  obtain ⟨q, h1, h2⟩ := en_find hR hh
  refine ⟨by rw [hz, hR.1, stt_len], ?_⟩
  rw [← h2]
  exact hR.2.set (en_vaD E h) h1 hv ho
theorem en_Aa {E : EE} {h : HP} {a : Nat} {e : PEnt} (hh : ob h a = some e) : en_A E (en_a E a) := by
  rw [en_a_dyn (ob_at hh).1]
  exact Nat.le_add_right _ _
theorem en_push {E : EE} {h : HP} {H H1 : Heap} {e : PEnt} (hR : en_R E h H) (hz : H1.size = H.size + 1) (hv : va_at E.1 vwCl (H.size, en_e E e) H1) (ho : ∀ q : Nat, q < H.size → H1[q]? = H[q]?) : en_R E (h ++ [some e]) H1 := by
  refine ⟨by rw [hz, hR.1, List.length_append]; rfl, ?_⟩
  rw [en_app, ← hR.1]
  refine (hR.2.kept (fun k q hk => ho q.1 ?_)).app (fun k q hk => ?_)
  · have := (en_ge E h (en_b E) k q hk).2
    rw [hR.1]; exact this
  · have hz2 : k < 1 := (List.getElem?_eq_some_iff.mp hk).1
    rw [show k = 0 by omega] at hk
    cases hk
    exact hv
theorem en_pads {E : EE} {h : HP} {H H1 : Heap} (hR : en_R E h H) (hz : H.size ≤ H1.size) (ho : ∀ q : Nat, q < H.size → H1[q]? = H[q]?) : en_R E (h ++ List.replicate (H1.size - H.size) none) H1 := by
  have e1 : ∀ n : Nat, en_w E (en_b E) (h ++ List.replicate n none) = en_w E (en_b E) h := by
    intro n
    induction n with
    | zero => simp
    | succ n ih => rw [List.replicate_succ', ← List.append_assoc, en_appn, ih]
  refine ⟨?_, ?_⟩
  · rw [List.length_append, List.length_replicate, ← Nat.add_assoc, ← hR.1]; omega
  · rw [e1]
    refine hR.2.kept (fun k q hk => ho q.1 ?_)
    have := (en_ge E h (en_b E) k q hk).2
    rw [hR.1]; exact this
def en_fit (ty : FieldType) (v : Value) : Bool := match ty, v with
  | .int, .int _ => true
  | .long, .long _ => true
  | .boolean, .int x => x == 0 || x == 1
  | .object _, .ref _ => true
  | .array _, .ref _ => true
  | _, _ => false
theorem en_fit_spec {E : EE} {ty : FieldType} {v : Value} (h : en_fit ty v = true) : narrow ty (en_v E v) = en_v E v ∧ fits ty (en_v E v) = true := by
  cases ty <;> cases v <;> first | exact ⟨rfl, rfl⟩ | exact Bool.noConfusion h | skip
  rename_i x
  simp only [en_fit, Bool.or_eq_true, beq_iff_eq] at h
  rcases h with rfl | rfl <;> exact ⟨rfl, rfl⟩
variable {l : Launch} {E : EE} {M : MRec} {d mc ms : Nat} {post : Outc → HP → Prop} {pc : Nat} {lv : LVs} {st : List Value} {h : HP} {cu su : Nat}
variable {ci N a : Nat} {C : String} {T : u_T} {ty : Nat → FieldType} {fs : List Value} {index : Nat}
theorem x_getf (cl : en_CL ci C T N ty) (hf : decode M.2.1 pc = .ok (.getfield index, 3)) (hh : ob h a = some (.inr (ci, fs))) (k : Nat) (hk : k < N) (hl : Cond.fieldLink M.1.cls index (T k).1 (T k).2.1 (T k).2.2.1 ∈ WS) {v : Value} (hv : fs[k]? = some v)
    (kk : XX l E M d mc ms post (pc + 3) lv (v :: st) h cu su) : XX l E M d mc ms post pc lv (.ref a :: st) h cu su := by
  intro p e s m args below meth c H locs ls K hR hS hL
  obtain ⟨q, h1, -⟩ := en_find hR hh
  exact va_get K.1 K.2.1 K.2.2.2.2.1 cl.2.1 K.2.2.2.1 K.2.2.2.2.2.1.1 hR.2 q h1 cl.1 k hk (K.2.2.2.2.1 _ hl) (fun x h => h) (by rw [List.getElem?_map, hv]; rfl) hf (kk p e s m args below meth c H locs ls K hR hS hL)
theorem x_put (cl : en_CL ci C T N ty) (hf : decode M.2.1 pc = .ok (.putfield index, 3)) (hh : ob h a = some (.inr (ci, fs))) (k : Nat) (hk : k < N) (hl : Cond.fieldLink M.1.cls index (T k).1 (T k).2.1 (T k).2.2.1 ∈ WS) {v : Value} (hfin : (T k).2.2.2 = false ∨ (M.1.name = "<init>" ∧ (T k).1 = M.1.cls)) (hn : k < fs.length) (hfit : en_fit (ty k) v = true)
    (kk : XX l E M d mc ms post (pc + 3) lv st (stt h a (.inr (ci, fs.set k v))) cu su) : XX l E M d mc ms post pc lv (v :: .ref a :: st) h cu su := by
  intro p e s m args below meth c H locs ls K hR hS hL
  obtain ⟨hexec, hb, hml, hown, hts, hG, hlk, hret, htab, hnm, -⟩ := id K
  have hK := hG.1
  obtain ⟨hn1, hn2⟩ := en_fit_spec (E := E) hfit
  obtain ⟨q, he, -⟩ := en_find hR hh
  have hap := va_apart (own := M.1.cls) hts cl.2.1 ty cl.2.2.2.2.2 cl.2.2.2.2.1 hK cl.1
  obtain ⟨r9, h1, cell, q1, q2, q3, q4⟩ := hR.2 q _ he
  have hr : r9 = (C, T, N) := Option.some.inj (h1.symm.trans cl.1)
  subst hr
  obtain ⟨hSl, hfc, kC, hkC, hkind⟩ := hK.1 ci _ cl.1
  obtain ⟨cf, kf, fi, f, hi, hsl⟩ := hSl k hk
  have hlay := hts _ (cl.2.1 _ (u_in_lay hk))
  have hst := (u_facts hfc hkC (u_lays hts cl.2.1 hk) hi).1
  have hln : k < (fs.map (en_v E)).length := by rw [List.length_map]; exact hn
  have hend : ∀ (H' : Heap), H'[en_a E a]? = some (cell.setSlot (E.1.2 ci k) (en_v E v)) → H'.size = H.size → (∀ q : Nat, q ≠ en_a E a → H'[q]? = H[q]?) → en_R E (stt h a (.inr (ci, fs.set k v))) H' := by
    intro H' e1 e2 e3
    refine en_put hR hh e2 ⟨_, cl.1, ?_⟩ e3
    have := t_OB.to (V := updV (vp_V (fs.map (en_v E))) k (en_v E v)) ⟨_, e1, q2, q3, t_set q4 hap hk (en_v E v)⟩ (fun j _ => vp_updV_set hln (en_v E v) j)
    rw [← List.map_set] at this
    exact this
  rcases hfin with hfin | ⟨hfin, hdecl⟩
  · by_cases hff : (T k).2.2.2 = true
    · rw [hfin] at hff; cases hff
    unfold u_lay at hlay
    rw [if_neg hff] at hlay
    have h6 := u_store hfc hkC hkind hlay hi (cl.2.2.2.2.2 k hk) hn1 hn2
    refine W.putK hexec hb (f := f) ⟨hown, hts _ hl, ⟨_, _, _, hi⟩, hst⟩ (by rw [q2]; exact h6) q1 q3 (by rw [hsl]; exact k2_hasslot (q4 k hk)) rfl rfl hf fun H' e1 e2 e3 => ?_
    rw [hsl] at e1 ⊢
    exact kk p e s m args below meth c H' _ ls K (hend H' e1 e2 e3) (hS.put e2 e3 (en_Aa hh)) hL
  · by_cases hff : (T k).2.2.2 = true
    · unfold u_lay at hlay
      rw [if_pos hff] at hlay
      have hcf : m.cls = cf := by
        obtain ⟨_, _, c', _, _, _, -, -, hf', -, -, -, hown2, -⟩ := Cond.laysFinal_spec hlay
        have e1 : c' = cf := by have := hi.symm.trans hf'; simp at this; exact this.1.symm
        rw [hdecl] at hown2
        rw [← e1]; exact Option.some.inj (hown.symm.trans hown2)
      have h6 := u_fits hfc hkC hkind (Or.inr hlay) hi (cl.2.2.2.2.2 k hk) hn1 hn2
      refine W.putFinK hexec hb hown (hts _ hl) hi hst hcf (hnm.trans hfin) (by rw [q2]; exact h6) q1 q3 (by rw [hsl]; exact k2_hasslot (q4 k hk)) rfl rfl hf fun H' e1 e2 e3 => ?_
      rw [hsl] at e1 ⊢
      exact kk p e s m args below meth c H' _ ls K (hend H' e1 e2 e3) (hS.put e2 e3 (en_Aa hh)) hL
    · unfold u_lay at hlay
      rw [if_neg hff] at hlay
      have h6 := u_store hfc hkC hkind hlay hi (cl.2.2.2.2.2 k hk) hn1 hn2
      refine W.putK hexec hb (f := f) ⟨hown, hts _ hl, ⟨_, _, _, hi⟩, hst⟩ (by rw [q2]; exact h6) q1 q3 (by rw [hsl]; exact k2_hasslot (q4 k hk)) rfl rfl hf fun H' e1 e2 e3 => ?_
      rw [hsl] at e1 ⊢
      exact kk p e s m args below meth c H' _ ls K (hend H' e1 e2 e3) (hS.put e2 e3 (en_Aa hh)) hL
theorem x_new (cl : en_CL ci C T N ty) (hf : decode M.2.1 pc = .ok (.new index, 3)) (hl : Cond.classLink M.1.cls index C ∈ WS) (hfs : ∀ j, j < N → defaultValue (ty j) = vp_V (fs.map (en_v E)) j) (hc : cu + 1 ≤ mc) (hs : su + N ≤ ms)
    (kk : XX l E M d mc ms post (pc + 3) lv (.ref (32 + h.length) :: st) (h ++ [some (.inr (ci, fs))]) (cu + 1) (su + N)) : XX l E M d mc ms post pc lv st h cu su := by
  intro p e s m args below meth c H locs ls K hR hS hL
  obtain ⟨hexec, hb, hml, hown, hts, hG, -⟩ := id K
  have hKn := hG.1.1 ci _ cl.1
  refine W.newcK hexec hb hown (hts _ hl) (hts _ cl.2.2.1) (hts _ cl.2.2.2.1) rfl hf hc hs hKn.2.1 rfl fun H1 kC hkC e1 z1 o1 => ?_
  have k1 := kk p e s m args below meth c H1 locs ls K (en_push hR z1 ⟨_, cl.1, (u_born ty hts cl.2.1 hKn hkC e1 cl.2.2.2.2.2).to hfs⟩ o1) ⟨Nat.le_trans hS.1 (by omega), fun x h1 h2 => (o1 x (Nat.lt_of_lt_of_le h1 hS.1)).trans (hS.2.1 x h1 h2), hS.2.2⟩ hL
  have e9 : en_v E (.ref (32 + h.length)) = .ref H.size := by
    show Value.ref (en_a E (32 + h.length)) = _
    rw [en_a_new, hR.1]
  rw [List.map_cons, e9] at k1
  exact k1
end HPR
