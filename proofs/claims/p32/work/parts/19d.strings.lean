section SRU
variable {l : Launch} {E : EE} {M M' : MRec} {d mc ms d' mc' ms' n : Nat} {post post' : Outc → HP → Prop} {pc : Nat} {lv : LVs} {st rest : List Value} {h : HP} {cu su index i : Nat}
theorem en_Xk {p : Program} {s : State} {m : MethodId} {args : Array Value} {meth : Method} {c : Code} (K : en_K l E M p s m args meth c) : en_X E.2.2.1 (en_A E) s := K.2.2.2.2.2.1.2.2.2.2.2.2.2.2
theorem en_old {a : Nat} (ha : a < 32) : en_v E (.ref a) = .ref (E.2.2.1 a) := by show Value.ref (en_a E a) = _; rw [en_a, if_pos ha]
theorem x_ldcS {tx : String} (hf : decode M.2.1 pc = .ok (.ldc index, 2)) (hq : (M.1.cls, index, tx, i) ∈ en_refs) (hi : i < 10) (kk : XX l E M d mc ms post (pc + 2) lv (.ref (1 + i) :: st) h cu su) : XX l E M d mc ms post pc lv st h cu su := by
  intro p e s m args below meth c H locs ls K hR hS hL
  have k1 := kk p e s m args below meth c H locs ls K hR hS hL
  rw [List.map_cons, en_old (by omega)] at k1
  exact va_ldcS K.1 K.2.1 K.2.2.2.1 ((en_Xk K).2.1 _ hq) hf k1
theorem x_getsU {host : String} (hf : decode M.2.1 pc = .ok (.getstatic index, 3)) (hl : Cond.fieldLinkNest M.1.cls index RX11 "UNITS" "[I" host ∈ NW) (kk : XX l E M d mc ms post (pc + 3) lv (.ref 11 :: st) h cu su) : XX l E M d mc ms post pc lv st h cu su := by
  intro p e s m args below meth c H locs ls K hR hS hL
  have k1 := kk p e s m args below meth c H locs ls K hR hS hL
  rw [List.map_cons, en_old (by omega)] at k1
  exact va_getsN K.1 K.2.1 (en_Xk K).2.2.1 hS K.2.2.2.1 (va_Nw.use rfl (K.2.2.2.2.2.1.2.1 _ hl)) (fun x h => h) hf k1
theorem x_getsN (hf : decode M.2.1 pc = .ok (.getstatic index, 3)) (hl : Cond.fieldLink M.1.cls index RX3 "NEITHER" "[I" ∈ WS) (kk : XX l E M d mc ms post (pc + 3) lv (.ref 12 :: st) h cu su) : XX l E M d mc ms post pc lv st h cu su := by
  intro p e s m args below meth c H locs ls K hR hS hL
  have k1 := kk p e s m args below meth c H locs ls K hR hS hL
  rw [List.map_cons, en_old (by omega)] at k1
  exact va_gets K.1 K.2.1 (en_Xk K).2.2.2.1 hS K.2.2.2.1 (K.2.2.2.2.1 _ hl) (fun x h => h) hf k1
theorem x_getsC (hf : decode M.2.1 pc = .ok (.getstatic index, 3)) (hl : Cond.fieldLink M.1.cls index "java/lang/String" "COMPACT_STRINGS" "Z" ∈ WS) (kk : XX l E M d mc ms post (pc + 3) lv (.int 1 :: st) h cu su) : XX l E M d mc ms post pc lv st h cu su := by
  intro p e s m args below meth c H locs ls K hR hS hL
  exact va_gets K.1 K.2.1 (en_Xk K).2.2.2.2.1 hS K.2.2.2.1 (K.2.2.2.2.1 _ hl) (fun x h => h) hf (kk p e s m args below meth c H locs ls K hR hS hL)
theorem x_getsF (hf : decode M.2.1 pc = .ok (.getstatic index, 3)) (hl : Cond.fieldLink M.1.cls index "jdk/internal/util/Preconditions" "SIOOBE_FORMATTER" "Ljava/util/function/BiFunction;" ∈ WS) (kk : ∀ v : Value, v = .null ∨ v = .ref 13 → XX l E M d mc ms post (pc + 3) lv (v :: st) h cu su) : XX l E M d mc ms post pc lv st h cu su := by
  intro p e s m args below meth c H locs ls K hR hS hL
  rcases (en_Xk K).2.2.2.2.2.2.2 with hz | hz
  · exact va_gets K.1 K.2.1 hz hS K.2.2.2.1 (K.2.2.2.2.1 _ hl) (fun x h => h) hf (kk .null (Or.inl rfl) p e s m args below meth c H locs ls K hR hS hL)
  · have k1 := kk (.ref 13) (Or.inr rfl) p e s m args below meth c H locs ls K hR hS hL
    rw [List.map_cons, en_old (by omega)] at k1
    exact va_gets K.1 K.2.1 hz hS K.2.2.2.1 (K.2.2.2.2.1 _ hl) (fun x h => h) hf k1
theorem x_tald1 {z : Int32} (hf : decode M.2.1 pc = .ok (.iaload, 1)) (hin : vp_in z 4) (kk : XX l E M d mc ms post (pc + 1) lv (.int (en_units z.toNatClampNeg) :: st) h cu su) : XX l E M d mc ms post pc lv (.int z :: .ref 11 :: st) h cu su := by
  intro p e s m args below meth c H locs ls K hR hS hL
  rw [List.map_cons, List.map_cons, en_old (by omega)]
  exact va_ti K.1 K.2.1 (en_Xk K).2.2.2.2.2.1 hS hin rfl hf (kk p e s m args below meth c H locs ls K hR hS hL)
theorem x_strv (hf : decode M.2.1 pc = .ok (.getfield index, 3)) (hl : Cond.fieldLink M.1.cls index "java/lang/String" "value" "[B" ∈ WS) (hi : i < 10) (kk : XX l E M d mc ms post (pc + 3) lv (.ref (17 + i) :: st) h cu su) : XX l E M d mc ms post pc lv (.ref (1 + i) :: st) h cu su := by
  intro p e s m args below meth c H locs ls K hR hS hL
  have k1 := kk p e s m args below meth c H locs ls K hR hS hL
  rw [List.map_cons, en_old (by omega)] at k1 ⊢
  exact vk_getf K.1 K.2.1 ((en_Xk K).1.1 i hi).2.2.1 hS K.2.2.2.1 (K.2.2.2.2.1 _ hl) (fun x h => h) hf k1
theorem x_strc (hf : decode M.2.1 pc = .ok (.getfield index, 3)) (hl : Cond.fieldLink M.1.cls index "java/lang/String" "coder" "B" ∈ WS) (hi : i < 10) (kk : XX l E M d mc ms post (pc + 3) lv (.int 0 :: st) h cu su) : XX l E M d mc ms post pc lv (.ref (1 + i) :: st) h cu su := by
  intro p e s m args below meth c H locs ls K hR hS hL
  have k1 := kk p e s m args below meth c H locs ls K hR hS hL
  rw [List.map_cons, en_old (by omega)]
  exact vk_getf K.1 K.2.1 ((en_Xk K).1.1 i hi).2.1 hS K.2.2.2.1 (K.2.2.2.2.1 _ hl) (fun x h => h) hf k1
theorem x_slenB (hf : decode M.2.1 pc = .ok (.arraylength, 1)) (hi : i < 10) (kk : XX l E M d mc ms post (pc + 1) lv (.int (Int32.ofNat (en_lenS.getD i 0)) :: st) h cu su) : XX l E M d mc ms post pc lv (.ref (17 + i) :: st) h cu su := by
  intro p e s m args below meth c H locs ls K hR hS hL
  have k1 := kk p e s m args below meth c H locs ls K hR hS hL
  rw [List.map_cons, en_old (by omega)]
  exact va_tlen K.1 K.2.1 ((en_Xk K).1.1 i hi).2.2.2 hS rfl hf k1
theorem x_sbald {z : Int32} (hf : decode M.2.1 pc = .ok (.baload, 1)) (hi : i < 10) (hin : vp_in z (en_lenS.getD i 0)) (kk : XX l E M d mc ms post (pc + 1) lv (.int ((en_bytS.getD i []).getD z.toNatClampNeg 0) :: st) h cu su) : XX l E M d mc ms post pc lv (.int z :: .ref (17 + i) :: st) h cu su := by
  intro p e s m args below meth c H locs ls K hR hS hL
  have k1 := kk p e s m args below meth c H locs ls K hR hS hL
  rw [List.map_cons, List.map_cons, en_old (by omega)]
  exact va_tb K.1 K.2.1 ((en_Xk K).1.1 i hi).2.2.2 hS hin rfl hf k1
theorem x_i2c {x : Int32} (hf : decode M.2.1 pc = .ok (.i2c, 1)) (k : XX l E M d mc ms post (pc + 1) lv (.int (x.toUInt32 % 65536).toInt32 :: st) h cu su) : XX l E M d mc ms post pc lv (.int x :: st) h cu su := by
  intro p e s m args below meth c H locs ls K hR hS hL
  exact lv_i2c K.1 K.2.1 hf rfl (k p e s m args below meth c H locs ls K hR hS hL)
/-- a call on a text -/
theorem x_callVS (h0 : M.2.2.2.2 = []) (h0' : M'.2.2.2.2 = []) (hf : decode M.2.1 pc = .ok (.invokevirtual index, 3)) (hM : en_M M' n) (hml : Cond.methodLink M.1.cls index M'.1 ∈ WS) (hins : Cond.instanceMethod M'.1 ∈ WS) (hsel : Cond.selects "java/lang/String" M'.1 M'.1 ∈ WS) (hi : i < 10) (as : List Value) (hn : as.length = n) (hst : st = as.reverse ++ .ref (1 + i) :: rest) (hrest : (rest.map fun v => v.category).sum ≤ 8)
    (hC : en_C l E M' d' mc' ms' (.ref (1 + i) :: as) h post') (hd : d' + 1 ≤ d) (hcu : cu + mc' ≤ mc) (hsu : su + ms' ≤ ms) (kx : ∀ N h', post' (.inr N) h' → post (.inr N) h') (kk : ∀ v h', post' (.inl v) h' → XX l E M d mc ms post (pc + 3) lv (v.toList ++ rest) h' (cu + mc') (su + ms')) : XX l E M d mc ms post pc lv st h cu su := by
  intro p e s m args below meth c H locs ls K hR hS hL
  obtain ⟨hexec, hb, hml9, hown, hts, hG, hlk, hret, htab, hnm, hl, hbs⟩ := id K
  have cb : CallB (en_rm d mc ms) s args M.1.cls index M'.1 M'.2.1 M'.2.2.1 M'.2.2.2.1 (en_hw M' :: WS) (en_rm d' mc' ms') mc' ms' n :=
    callB_of n hts (en_good hM.1) (by rw [en_hw0 h0']) rfl rfl (hts _ hM.2.1) (hts _ hml) ⟨hM.2.2.1.1, hM.2.2.1.2, hM.2.2.2.1⟩ ⟨hd, by have := hM.2.2.2.2.1; show 8 + (M'.2.2.1 + 11) + 64 * d' ≤ 64 * d; omega⟩
  have e9 : en_a E (1 + i) = E.2.2.1 (1 + i) := by rw [en_a, if_pos (by omega)]
  have hpre : PreV s H "java/lang/String" (en_a E (1 + i)) (en_P E (.ref (1 + i) :: as) h) (as.map (en_v E)) := ⟨en_blind, by rw [e9]; exact vk_recv (adK := fun i => E.2.2.1 (1 + i)) (i := i) (en_Xk K).1 hi hS, fun U hU hW => ⟨rfl, by rw [hU]; exact hR, en_G_to hG hW hbs (fun q h1 h2 => by rw [hU]; exact hS.2.1 q h1 h2)⟩⟩
  subst hst
  rw [List.map_append, List.map_reverse, List.map_cons]
  refine en_after (vx_runV ⟨hexec, hb, hml9, hown, hts⟩ hC ⟨cb, hts _ hins, hts _ hsel⟩ hpre rfl (by rw [List.length_map]; exact hn) hL.1 rfl (by rw [en_cats]; show 2 * 0 + _ ≤ 8; omega) hf ⟨hcu, hsu⟩) hS (fun N h' H1 locs1 q9 ce hp hR1 hS1 h1 h2 h3 => ?_) (fun v h' H1 locs1 hp hR1 hS1 => ?_)
  · exact vx_out (fun x hx => (en_tab0 K h0 x hx).elim) hlk h1 h2 h3 (fun t ht _ => ⟨h', kx N h' hp, by rw [ht]; exact hR1, hS1.F ht⟩) hS1.2.2 hcu hsu
  · have k9 := kk v h' hp p e s m args below meth c H1 locs1 ls K hR1 hS1 hL
    rw [List.map_append] at k9
    rw [show (v.map (en_v E)).toList = v.toList.map (en_v E) by cases v <;> rfl]
    exact k9
end SRU
