section NAT
variable {l : Launch} {E : EE} {M : MRec} {d mc ms : Nat} {post : Outc → HP → Prop} {pc : Nat} {lv : LVs} {st rest : List Value} {h : HP} {cu su index : Nat}

theorem x_mmax {x y : Int32} (hf : decode M.2.1 pc = .ok (.invokestatic index, 3)) (hl : Cond.methodLink M.1.cls index Lib.Math.max.name ∈ WS) (hs9 : Cond.static Lib.Math.max.name ∈ WS) (hi : Cond.initialized "java/lang/Math" ∈ WS) (hc9 : Cond.code Lib.Math.max.name Lib.Math.max.code 2 (some .int) ∈ WS) (hd : 1 ≤ d) (hst : (rest.map fun v => v.category).sum ≤ 40) (hcu : cu ≤ mc) (hsu : su ≤ ms) (kk : XX l E M d mc ms post (pc + 3) lv (.int (if x < y then y else x) :: rest) h cu su) : XX l E M d mc ms post pc lv (.int y :: .int x :: rest) h cu su := by
  intro p e s m args below meth c H locs ls K hR hS hL
  have kw := kk p e s m args below meth c H locs ls K hR hS hL
  rw [List.map_cons] at kw ⊢
  exact va_mmax K.1 K.2.1 (K.2.2.1.trans hL.1.symm) K.2.2.2.1 (K.2.2.2.2.1 _ hl) (K.2.2.2.2.1 _ hs9) (K.2.2.2.2.1 _ hi) (K.2.2.2.2.1 _ hc9) hd (by rw [en_cats]; show _ ≤ 64 * d; omega) hcu hsu hf kw

theorem x_mmin {x y : Int32} (hf : decode M.2.1 pc = .ok (.invokestatic index, 3)) (hl : Cond.methodLink M.1.cls index Lib.Math.min.name ∈ WS) (hs9 : Cond.static Lib.Math.min.name ∈ WS) (hi : Cond.initialized "java/lang/Math" ∈ WS) (hc9 : Cond.code Lib.Math.min.name Lib.Math.min.code 2 (some .int) ∈ WS) (hd : 1 ≤ d) (hst : (rest.map fun v => v.category).sum ≤ 40) (hcu : cu ≤ mc) (hsu : su ≤ ms) (kk : XX l E M d mc ms post (pc + 3) lv (.int (if y < x then y else x) :: rest) h cu su) : XX l E M d mc ms post pc lv (.int y :: .int x :: rest) h cu su := by
  intro p e s m args below meth c H locs ls K hR hS hL
  have kw := kk p e s m args below meth c H locs ls K hR hS hL
  rw [List.map_cons] at kw ⊢
  exact va_mmin K.1 K.2.1 (K.2.2.1.trans hL.1.symm) K.2.2.2.1 (K.2.2.2.2.1 _ hl) (K.2.2.2.2.1 _ hs9) (K.2.2.2.2.1 _ hi) (K.2.2.2.2.1 _ hc9) hd (by rw [en_cats]; show _ ≤ 64 * d; omega) hcu hsu hf kw

theorem x_mabs {x : Int32} (hf : decode M.2.1 pc = .ok (.invokestatic index, 3)) (hl : Cond.methodLink M.1.cls index Lib.Math.abs.name ∈ WS) (hs9 : Cond.static Lib.Math.abs.name ∈ WS) (hi : Cond.initialized "java/lang/Math" ∈ WS) (hc9 : Cond.code Lib.Math.abs.name Lib.Math.abs.code 1 (some .int) ∈ WS) (hd : 1 ≤ d) (hst : (rest.map fun v => v.category).sum ≤ 40) (hcu : cu ≤ mc) (hsu : su ≤ ms) (kk : XX l E M d mc ms post (pc + 3) lv (.int (if 0 ≤ x then x else 0 - x) :: rest) h cu su) : XX l E M d mc ms post pc lv (.int x :: rest) h cu su := by
  intro p e s m args below meth c H locs ls K hR hS hL
  have kw := kk p e s m args below meth c H locs ls K hR hS hL
  rw [List.map_cons] at kw ⊢
  exact va_mabs K.1 K.2.1 (K.2.2.1.trans hL.1.symm) K.2.2.2.1 (K.2.2.2.2.1 _ hl) (K.2.2.2.2.1 _ hs9) (K.2.2.2.2.1 _ hi) (K.2.2.2.2.1 _ hc9) hd (by rw [en_cats]; show _ ≤ 64 * d; omega) hcu hsu hf kw

theorem x_lmax {x y : Int64} (hf : decode M.2.1 pc = .ok (.invokestatic index, 3)) (hl : Cond.methodLink M.1.cls index Lib.MathLoose.max_long.x ∈ WS) (hs9 : Cond.static Lib.MathLoose.max_long.x ∈ WS) (hi : Cond.initialized "java/lang/Math" ∈ WS) (hc9 : Cond.code Lib.MathLoose.max_long.x Lib.MathLoose.max_long.code 4 (some .long) ∈ WS) (hd : 1 ≤ d) (hst : (rest.map fun v => v.category).sum ≤ 40) (hcu : cu ≤ mc) (hsu : su ≤ ms) (kk : XX l E M d mc ms post (pc + 3) lv (.long (if y < x then x else y) :: rest) h cu su) : XX l E M d mc ms post pc lv (.long y :: .long x :: rest) h cu su := by
  intro p e s m args below meth c H locs ls K hR hS hL
  have kw := kk p e s m args below meth c H locs ls K hR hS hL
  rw [List.map_cons] at kw ⊢
  exact va_mmax_long K.1 K.2.1 (K.2.2.1.trans hL.1.symm) K.2.2.2.1 (K.2.2.2.2.1 _ hl) (K.2.2.2.2.1 _ hs9) (K.2.2.2.2.1 _ hi) (K.2.2.2.2.1 _ hc9) hd (by rw [en_cats]; show _ ≤ 64 * d; omega) hcu hsu hf kw

theorem x_lmin {x y : Int64} (hf : decode M.2.1 pc = .ok (.invokestatic index, 3)) (hl : Cond.methodLink M.1.cls index Lib.MathLoose.min_long.x ∈ WS) (hs9 : Cond.static Lib.MathLoose.min_long.x ∈ WS) (hi : Cond.initialized "java/lang/Math" ∈ WS) (hc9 : Cond.code Lib.MathLoose.min_long.x Lib.MathLoose.min_long.code 4 (some .long) ∈ WS) (hd : 1 ≤ d) (hst : (rest.map fun v => v.category).sum ≤ 40) (hcu : cu ≤ mc) (hsu : su ≤ ms) (kk : XX l E M d mc ms post (pc + 3) lv (.long (if y < x then y else x) :: rest) h cu su) : XX l E M d mc ms post pc lv (.long y :: .long x :: rest) h cu su := by
  intro p e s m args below meth c H locs ls K hR hS hL
  have kw := kk p e s m args below meth c H locs ls K hR hS hL
  rw [List.map_cons] at kw ⊢
  exact va_mmin_long K.1 K.2.1 (K.2.2.1.trans hL.1.symm) K.2.2.2.1 (K.2.2.2.2.1 _ hl) (K.2.2.2.2.1 _ hs9) (K.2.2.2.2.1 _ hi) (K.2.2.2.2.1 _ hc9) hd (by rw [en_cats]; show _ ≤ 64 * d; omega) hcu hsu hf kw

theorem x_labs {x : Int64} (hf : decode M.2.1 pc = .ok (.invokestatic index, 3)) (hl : Cond.methodLink M.1.cls index Lib.MathLoose.abs_long.x ∈ WS) (hs9 : Cond.static Lib.MathLoose.abs_long.x ∈ WS) (hi : Cond.initialized "java/lang/Math" ∈ WS) (hc9 : Cond.code Lib.MathLoose.abs_long.x Lib.MathLoose.abs_long.code 2 (some .long) ∈ WS) (hd : 1 ≤ d) (hst : (rest.map fun v => v.category).sum ≤ 40) (hcu : cu ≤ mc) (hsu : su ≤ ms) (kk : XX l E M d mc ms post (pc + 3) lv (.long (if 0 < x then x else -x) :: rest) h cu su) : XX l E M d mc ms post pc lv (.long x :: rest) h cu su := by
  intro p e s m args below meth c H locs ls K hR hS hL
  have kw := kk p e s m args below meth c H locs ls K hR hS hL
  rw [List.map_cons] at kw ⊢
  exact va_mabs_long K.1 K.2.1 (K.2.2.1.trans hL.1.symm) K.2.2.2.1 (K.2.2.2.2.1 _ hl) (K.2.2.2.2.1 _ hs9) (K.2.2.2.2.1 _ hi) (K.2.2.2.2.1 _ hc9) hd (by rw [en_cats]; show _ ≤ 64 * d; omega) hcu hsu hf kw

/-- System.arraycopy between rows of ints (kind 0) or of bytes (kind 2) -/
theorem x_acopy {a0 a n0 n1 t : Nat} {f g : Nat → Int32} {sp dp n : Int32} (ty : FieldType) (ht : (en_T E)[t]? = some (E.2.1 t, ty)) (hprim : refKind ty = false) (hf : decode M.2.1 pc = .ok (.invokestatic index, 3)) (hl : Cond.methodLink M.1.cls index arraycopyName ∈ WS) (hnat : Cond.native arraycopyName ∈ WS) (hs9 : Cond.static arraycopyName ∈ WS) (hi : Cond.initialized "java/lang/System" ∈ WS)
    (h0 : ob h a0 = some (.inl (t, n0, .inl f))) (h9 : ob h a = some (.inl (t, n1, .inl g))) (h1 : ¬ sp < 0) (h2 : ¬ dp < 0) (h3 : ¬ n < 0) (h4 : sp.toNatClampNeg + n.toNatClampNeg ≤ n0) (h5 : dp.toNatClampNeg + n.toNatClampNeg ≤ n1) (hfit : ∀ i, i < n.toNatClampNeg → fits ty (.int (f (sp.toNatClampNeg + i))) = true)
    (hd : 1 ≤ d) (hst : (rest.map fun v => v.category).sum + (nativeFrameWords "java/lang/System" "arraycopy" 5 + 11) ≤ 64 * d)
    (kk : XX l E M d mc ms post (pc + 3) lv rest (stt h a (.inl (t, n1, .inl (va_cpy f g sp.toNatClampNeg dp.toNatClampNeg n.toNatClampNeg)))) cu su) : XX l E M d mc ms post pc lv (.int n :: .int dp :: .ref a :: .int sp :: .ref a0 :: rest) h cu su := by
  intro p e s m args below meth c H locs ls K hR hS hL
  have nn : ∀ z : Int32, ¬ z < 0 → z.toInt = (z.toNatClampNeg : Int) := by
    intro z hz
    have hz0 : (0 : Int) ≤ z.toInt := by
      have := Int32.not_lt.mp hz
      simpa using Int32.le_iff_toInt_le.mp this
    show z.toInt = ((z.toInt.toNat : Nat) : Int)
    omega
  obtain ⟨q0, p0, -⟩ := en_find hR h0
  obtain ⟨q1, p1, -⟩ := en_find hR h9
  intro T hT X
  have hc0 : H[en_a E a0]? = some (vp_cell (E.2.1 t) (n0, .inl f)) := hR.2 q0 _ p0
  have hc1 : H[en_a E a]? = some (vp_cell (E.2.1 t) (n1, .inl g)) := hR.2 q1 _ p1
  obtain ⟨-, k0, hk0, cm0, hkk0⟩ := (en_tk K.2.2.2.2.2.1 t ht).1 n0 (fun j => .int (f j))
  obtain ⟨-, k1, hk1, cm1, hkk1⟩ := (en_tk K.2.2.2.2.2.1 t ht).1 n1 (fun j => .int (g j))
  obtain ⟨vm', X', step⟩ := X.arraycopy K.1 K.2.2.2.1 (K.2.2.2.2.1 _ hl) (K.2.2.2.2.1 _ hnat) (K.2.2.2.2.1 _ hs9) (K.2.2.2.2.1 _ hi) (src := en_a E a0) (dst := en_a E a) (cs := vp_cell (E.2.1 t) (n0, .inl f)) (cd := vp_cell (E.2.1 t) (n1, .inl g)) (srcPos := sp) (destPos := dp) (n := n) (by rw [hT]; exact hc0) (by rw [hT]; exact hc1)
    (fun _ h => by cases h) (fun _ h => by cases h) (fun h => by cases h) (fun h => by cases h) hk0 hk1 hkk0 hkk1 (by simp [hprim]) h1 h2 h3
    (by rw [nn sp h1, nn n h3]; show ¬ _ > ((arrV (E.2.1 t) n0 (fun j => .int (f j))).slots.size : Int); rw [arrV_size]; omega)
    (by rw [nn dp h2, nn n h3]; show ¬ _ > ((arrV (E.2.1 t) n1 (fun j => .int (g j))).slots.size : Int); rw [arrV_size]; omega)
    (fun vm₁ _ i hi => by
      have e : (vp_cell (E.2.1 t) (n0, .inl f)).slots.getD (sp.toNatClampNeg + i) .null = .int (f (sp.toNatClampNeg + i)) := by
        show (arrV (E.2.1 t) n0 (fun j => .int (f j))).slots.getD _ _ = _
        rw [Array.getD_eq_getD_getElem?, arrV_read _ _ (by omega)]
        rfl
      refine ⟨?_, ?_⟩
      · rw [e]
        exact hfit i hi
      · rw [e]
        exact trivial)
    (g := F0 m pc ls (.int n :: .int dp :: .ref (en_a E a) :: .int sp :: .ref (en_a E a0) :: rest.map (en_v E))) rfl (by rw [K.2.2.1, hL.1]) (rest := rest.map (en_v E)) rfl (by rw [K.2.1]; exact hf) hd (by show 2 * 0 + _ + _ ≤ 64 * d; rw [en_cats]; omega)
  have e1 : copied (vp_cell (E.2.1 t) (n0, .inl f)) (vp_cell (E.2.1 t) (n1, .inl g)) sp dp n = vp_cell (E.2.1 t) (n1, .inl (va_cpy f g sp.toNatClampNeg dp.toNatClampNeg n.toNatClampNeg)) := va_copied (fun z => .int z) (E.2.1 t) (E.2.1 t) f g h4
  rw [e1] at X' step
  have hl9 : en_a E a < H.size := (Array.getElem?_eq_some_iff.mp hc1).1
  have hheap : ((T.setVm vm').setCell (en_a E a) (vp_cell (E.2.1 t) (n1, .inl (va_cpy f g sp.toNatClampNeg dp.toNatClampNeg n.toNatClampNeg)))).heap = H.setIfInBounds (en_a E a) (vp_cell (E.2.1 t) (n1, .inl (va_cpy f g sp.toNatClampNeg dp.toNatClampNeg n.toNatClampNeg))) := by rw [← hT]; rfl
  have oq : ∀ q : Nat, q ≠ en_a E a → (H.setIfInBounds (en_a E a) (vp_cell (E.2.1 t) (n1, .inl (va_cpy f g sp.toNatClampNeg dp.toNatClampNeg n.toNatClampNeg))))[q]? = H[q]? := fun q hq => by simp [Array.getElem?_setIfInBounds, Ne.symm hq]
  obtain ⟨t9, a1, b1⟩ := kk p e s m args below meth c _ _ ls K (en_put hR h9 (by simp) (show (H.setIfInBounds (en_a E a) _)[en_a E a]? = some _ by simp [Array.getElem?_setIfInBounds, hl9]; rfl) oq) ⟨by simp; exact hS.1, fun q g1 g2 => by
      rw [oq q (fun e => g2 (by rw [e]; exact en_Aa h9))]
      exact hS.2.1 q g1 g2, fun q hq => by
      rcases List.mem_append.mp hq with h | h
      · exact hS.2.2 q h
      · obtain ⟨z, -, hz⟩ := List.mem_map.mp h
        rw [← hz]
        exact en_Aa h9⟩ hL _ hheap X'
  exact ⟨t9, step t9 a1, b1⟩
end NAT
