section CAL
variable {l : Launch} {E : EE} {M : MRec} {d mc ms : Nat} {post : Outc → HP → Prop} {pc : Nat} {lv : LVs} {st : List Value} {h : HP} {cu su : Nat}
theorem x_ldc {index : Nat} {v : Int32} (hf : decode M.2.1 pc = .ok (.ldc index, 2)) (hw : Cond.constant M.1.cls index v ∈ WS) (kk : XX l E M d mc ms post (pc + 2) lv (.int v :: st) h cu su) : XX l E M d mc ms post pc lv st h cu su := by
  intro p e s m args below meth c H locs ls K hR hS hL
  exact lv_ldc K.1 K.2.1 K.2.2.2.1 (K.2.2.2.2.1 _ hw) hf (kk p e s m args below meth c H locs ls K hR hS hL)
theorem x_ldcw {index : Nat} {v : Int32} (hf : decode M.2.1 pc = .ok (.ldc_w index, 3)) (hw : Cond.constant M.1.cls index v ∈ WS) (kk : XX l E M d mc ms post (pc + 3) lv (.int v :: st) h cu su) : XX l E M d mc ms post pc lv st h cu su := by
  intro p e s m args below meth c H locs ls K hR hS hL
  exact lv_ldcw K.1 K.2.1 K.2.2.2.1 (K.2.2.2.2.1 _ hw) hf (kk p e s m args below meth c H locs ls K hR hS hL)
theorem x_ldc2 {index : Nat} {v : Int64} (hf : decode M.2.1 pc = .ok (.ldc2_w index, 3)) (hw : Cond.constantLong M.1.cls index v ∈ WS) (kk : XX l E M d mc ms post (pc + 3) lv (.long v :: st) h cu su) : XX l E M d mc ms post pc lv st h cu su := by
  intro p e s m args below meth c H locs ls K hR hS hL
  exact lv_ldc2 K.1 K.2.1 K.2.2.2.1 (K.2.2.2.2.1 _ hw) hf (kk p e s m args below meth c H locs ls K hR hS hL)
theorem x_tabIn {dflt lo hi : Int} {offs : Array Int} {n : Nat} {x : Int32} {off : Int} {tgt : Nat} (hf : decode M.2.1 pc = .ok (.tableswitch dflt lo hi offs, n)) (h1 : ¬ x.toInt < lo) (h2 : ¬ hi < x.toInt) (ho : offs[(x.toInt - lo).toNat]? = some off) (ht : (pc : Int) + off = (tgt : Int)) (kk : XX l E M d mc ms post tgt lv st h cu su) : XX l E M d mc ms post pc lv (.int x :: st) h cu su := by
  intro p e s m args below meth c H locs ls K hR hS hL
  exact lv_tableIn K.1 K.2.1 hf h1 h2 ho ht (kk p e s m args below meth c H locs ls K hR hS hL)
theorem x_tabOut {dflt lo hi : Int} {offs : Array Int} {n : Nat} {x : Int32} {tgt : Nat} (hf : decode M.2.1 pc = .ok (.tableswitch dflt lo hi offs, n)) (ho : x.toInt < lo ∨ hi < x.toInt) (ht : (pc : Int) + dflt = (tgt : Int)) (kk : XX l E M d mc ms post tgt lv st h cu su) : XX l E M d mc ms post pc lv (.int x :: st) h cu su := by
  intro p e s m args below meth c H locs ls K hR hS hL
  exact lv_tableOut K.1 K.2.1 hf ho ht (kk p e s m args below meth c H locs ls K hR hS hL)
/-- fewer locals known -/
theorem x_lv {lv' : LVs} (hs : ∀ (i : Nat) (v : Value), lv'[i]? = some (some v) → lv[i]? = some (some v)) (kk : XX l E M d mc ms post pc lv' st h cu su) : XX l E M d mc ms post pc lv st h cu su := by
  intro p e s m args below meth c H locs ls K hR hS hL
  exact kk p e s m args below meth c H locs ls K hR hS ⟨hL.1, hL.2.1, fun i v hv => hL.2.2 i v (hs i v hv)⟩
theorem x_wide {cu' su' : Nat} (hc : cu ≤ cu') (hs : su ≤ su') (kk : XX l E M d mc ms post pc lv st h cu' su') : XX l E M d mc ms post pc lv st h cu su := by
  intro p e s m args below meth c H locs ls K hR hS hL
  exact W.widen hc hs (kk p e s m args below meth c H locs ls K hR hS hL)
theorem x_iret {v : Int32} (hf : decode M.2.1 pc = .ok (.ireturn, 1)) (hr : M.2.2.2.1 = some .int) (hp : post (.inl (some (.int v))) h) (hc : cu ≤ mc) (hs : su ≤ ms) : XX l E M d mc ms post pc lv [.int v] h cu su := by
  intro p e s m args below meth c H locs ls K hR hS hL
  refine W.widen hc hs (vx_ret ?_)
  exact W.iret K.1 K.2.1 (K.2.2.2.2.2.2.2.1.trans hr) (fun t ht _ => ⟨some (.int v), h, rfl, hp, by rw [ht]; exact hR, hS.F ht⟩) hS.2.2 hf K.2.2.2.2.2.2.1
theorem x_zret {v : Int32} (hf : decode M.2.1 pc = .ok (.ireturn, 1)) (hr : M.2.2.2.1 = some .boolean) (hv : v = 0 ∨ v = 1) (hp : post (.inl (some (.int v))) h) (hc : cu ≤ mc) (hs : su ≤ ms) : XX l E M d mc ms post pc lv [.int v] h cu su := by
  intro p e s m args below meth c H locs ls K hR hS hL
  refine W.widen hc hs (vx_ret ?_)
  exact W.zret K.1 K.2.1 (K.2.2.2.2.2.2.2.1.trans hr) (by rcases hv with rfl | rfl <;> rfl) (fun t ht _ => ⟨some (.int v), h, rfl, hp, by rw [ht]; exact hR, hS.F ht⟩) hS.2.2 hf K.2.2.2.2.2.2.1
theorem x_lret {v : Int64} (hf : decode M.2.1 pc = .ok (.lreturn, 1)) (hr : M.2.2.2.1 = some .long) (hp : post (.inl (some (.long v))) h) (hc : cu ≤ mc) (hs : su ≤ ms) : XX l E M d mc ms post pc lv [.long v] h cu su := by
  intro p e s m args below meth c H locs ls K hR hS hL
  refine W.widen hc hs (vx_ret ?_)
  exact W.lret K.1 K.2.1 (K.2.2.2.2.2.2.2.1.trans hr) (fun t ht _ => ⟨some (.long v), h, rfl, hp, by rw [ht]; exact hR, hS.F ht⟩) hS.2.2 hf K.2.2.2.2.2.2.1
theorem x_aret {v : Nat} {n : String} (hf : decode M.2.1 pc = .ok (.areturn, 1)) (hr : M.2.2.2.1 = some (.object n)) (hp : post (.inl (some (.ref v))) h) (hc : cu ≤ mc) (hs : su ≤ ms) : XX l E M d mc ms post pc lv [.ref v] h cu su := by
  intro p e s m args below meth c H locs ls K hR hS hL
  refine W.widen hc hs (vx_ret ?_)
  exact W.aret K.1 K.2.1 (K.2.2.2.2.2.2.2.1.trans hr) (Or.inl ⟨n, rfl⟩) (Or.inr ⟨en_a E v, rfl⟩) (fun t ht _ => ⟨some (.ref v), h, rfl, hp, by rw [ht]; exact hR, hS.F ht⟩) hS.2.2 hf K.2.2.2.2.2.2.1
theorem x_vret (hf : decode M.2.1 pc = .ok (.return_, 1)) (hr : M.2.2.2.1 = none) (hp : post (.inl none) h) (hc : cu ≤ mc) (hs : su ≤ ms) : XX l E M d mc ms post pc lv [] h cu su := by
  intro p e s m args below meth c H locs ls K hR hS hL
  refine W.widen hc hs (vx_ret ?_)
  exact W.vret K.1 K.2.1 (K.2.2.2.2.2.2.2.1.trans hr) (fun t ht _ => ⟨none, h, rfl, hp, by rw [ht]; exact hR, hS.F ht⟩) hS.2.2 hf K.2.2.2.2.2.2.1
/-- Object() -/
theorem x_objInit {index : Nat} {a : Nat} (hf : decode M.2.1 pc = .ok (.invokespecial index, 3)) (hl : Cond.methodLink M.1.cls index objectInit ∈ WS) (hi : Cond.instanceMethod objectInit ∈ WS) (hcd : Cond.code objectInit ⟨#[0xb1]⟩ 1 none ∈ WS) (hd : 1 ≤ d) (hst : (st.map fun v => v.category).sum ≤ 40) (kk : XX l E M d mc ms post (pc + 3) lv st h cu su) : XX l E M d mc ms post pc lv (.ref a :: st) h cu su := by
  intro p e s m args below meth c H locs ls K hR hS hL
  have hcats : ((st.map (en_v E)).map fun v => v.category).sum = (st.map fun v => v.category).sum := by
    rw [List.map_map]; congr 1; exact List.map_congr_left (fun v _ => en_cat E v)
  refine W.objInit K.1 K.2.1 K.2.2.2.1 (K.2.2.2.2.1 _ hl) (K.2.2.2.2.1 _ hi) (K.2.2.2.2.1 _ hcd) rfl (hL.1.trans K.2.2.1.symm) rfl hf hd ?_ (kk p e s m args below meth c H locs ls K hR hS hL)
  show 2 * 0 + _ + 12 ≤ 64 * d
  rw [hcats]; omega
/-- words that hold where a frame stands -/
def en_Wd (w : Cond) : Prop := w ∈ WS ∨ w ∈ NW
theorem en_Wd_use {l : Launch} {E : EE} {M : MRec} {p : Program} {s : State} {m : MethodId} {args : Array Value} {meth : Method} {c : Code} (K : en_K l E M p s m args meth c) {w : Cond} (hw : en_Wd w) : w.before args s = true ∧ vx_ot w = true := by
  rcases hw with hw | hw
  · refine ⟨K.2.2.2.2.1 w hw, ?_⟩
    unfold vx_ot
    rw [(List.mem_filter.mp hw).2, Bool.or_true]
  · have h1 := (List.mem_filter.mp hw).2
    have h2 : w.onTables = true := by cases w <;> first | rfl | exact Bool.noConfusion h1
    refine ⟨va_Nw.use h2 (K.2.2.2.2.2.1.2.1 w hw), ?_⟩
    unfold vx_ot
    rw [h2, Bool.true_or]
/-- throw new E() -/
theorem x_throw {ik ic : Nat} {cls : String} {names : List String} (h0 : M.2.2.2.2 = []) (hf : decode M.2.1 pc = .ok (.new ik, 3)) (hf1 : decode M.2.1 (pc + 3) = .ok (.dup, 1)) (hf2 : decode M.2.1 (pc + 4) = .ok (.invokespecial ic, 3)) (hf3 : decode M.2.1 (pc + 7) = .ok (.athrow, 1))
    (hcls : Bundle.fit cls = true) (hnames : ∀ n ∈ names, Bundle.fit n = true) (hk : en_Wd (Cond.classLink M.1.cls ik cls)) (hini : en_Wd (Cond.initialized cls)) (hat : ∀ w ∈ vx_at0 M.1.cls ic cls names, en_Wd w)
    (hd : names.length + 3 < d) (hst : (st.map fun v => v.category).sum ≤ 8) (hc : cu + 1 ≤ mc) (hs : su + 6 ≤ ms) (hp : ∀ n : Nat, post (.inr cls) (h ++ List.replicate n none)) : XX l E M d mc ms post pc lv st h cu su := by
  intro p e s m args below meth c H locs ls K hR hS hL
  obtain ⟨hexec, hb, hml, hown, hts, hG, hlk, hret, htab, hnm, hl, hbs⟩ := id K
  have hcats : ((st.map (en_v E)).map fun v => v.category).sum = (st.map fun v => v.category).sum := by
    rw [List.map_map]; congr 1; exact List.map_congr_left (fun v _ => en_cat E v)
  refine vx_throw0 (names := names) hexec hb hl hown hcls hnames (en_Wd_use K hk).1 (en_Wd_use K hini).1 (fun w hw => (en_Wd_use K (hat w hw)).1) ?_ hG.2.2.1 hG.2.2.2.1 hS (hL.1.trans hml.symm) hf hf1 hf2 hf3 (fun x hx => (en_tab0 K h0 x hx).elim) hd ?_ hc hs hlk ?_ hS.2.2 hc hs
  · intro w hw
    rcases List.mem_cons.mp hw with rfl | hw
    · exact (en_Wd_use K hk).2
    rcases List.mem_cons.mp hw with rfl | hw
    · exact (en_Wd_use K hini).2
    · exact (en_Wd_use K (hat w hw)).2
  · show _ + (13 * (names.length + 1) + 42) ≤ 64 * d
    rw [hcats]; omega
  · intro t hvm hz ho
    exact ⟨_, hp (t.heap.size - H.size), en_pads hR hz ho, Nat.le_trans hS.1 hz, fun q h1 h2 => (ho q (Nat.lt_of_lt_of_le h1 hS.1)).trans (hS.2.1 q h1 h2)⟩
end CAL
