section ARR
variable {l : Launch} {E : EE} {M : MRec} {d mc ms : Nat} {post : Outc → HP → Prop} {pc : Nat} {lv : LVs} {st : List Value} {h : HP} {cu su : Nat} {a n : Nat} {i : Int32}
theorem en_tk {E : EE} {s : State} (hG : en_G E s) (k : Nat) {q : ClassId × FieldType} (hq : (en_T E)[k]? = some q) : ArrOfT s q.1 q.2 ∧ va_RA s q.1 q.2 := hG.1.2 k q hq
theorem x_alen {t : Nat} {x : vp_A} (hf : decode M.2.1 pc = .ok (.arraylength, 1)) (hh : ob h a = some (.inl (t, x))) (ht : t < 6) (kk : XX l E M d mc ms post (pc + 1) lv (.int (Int32.ofNat x.1) :: st) h cu su) : XX l E M d mc ms post pc lv (.ref a :: st) h cu su := by
  intro p e s m args below meth c H locs ls K hR hS hL
  obtain ⟨q, h1, -⟩ := en_find hR hh
  obtain ⟨ty, hty⟩ : ∃ ty, (en_T E)[t]? = some (E.2.1 t, ty) := by
    rcases (show t = 0 ∨ t = 1 ∨ t = 2 ∨ t = 3 ∨ t = 4 ∨ t = 5 by omega) with rfl | rfl | rfl | rfl | rfl | rfl <;> exact ⟨_, rfl⟩
  exact va_alen K.1 K.2.1 K.2.2.2.2.2.1.1 hR.2 q t h1 hty rfl hf (kk p e s m args below meth c H locs ls K hR hS hL)
/-- an old array: the law's script, a table of a class -/
theorem x_sald {L : Nat} {xs : Nat → Int32} (hf : decode M.2.1 pc = .ok (.iaload, 1)) (ha : a < 32) (hx : E.2.2.2.2 a = some (L, xs)) (hin : vp_in i L) (kk : XX l E M d mc ms post (pc + 1) lv (.int (xs i.toNatClampNeg) :: st) h cu su) : XX l E M d mc ms post pc lv (.int i :: .ref a :: st) h cu su := by
  intro p e s m args below meth c H locs ls K hR hS hL
  obtain ⟨hexec, hb, hml, hown, hts, hG, -, -, -, -, -, hbs⟩ := id K
  obtain ⟨g1, g2⟩ := hG.2.2.2.2.2.2.2.1 a L xs hx
  have e9 : en_v E (.ref a) = .ref (E.2.2.1 a) := by show Value.ref (en_a E a) = _; rw [en_a, if_pos ha]
  rw [List.map_cons, List.map_cons, e9]
  exact va_sld hexec hb g1 (Nat.lt_of_lt_of_le g2 hbs) (Nat.not_le.mpr g2) hS hin hf (kk p e s m args below meth c H locs ls K hR hS hL)
theorem x_slen {L : Nat} {xs : Nat → Int32} (hf : decode M.2.1 pc = .ok (.arraylength, 1)) (ha : a < 32) (hx : E.2.2.2.2 a = some (L, xs)) (kk : XX l E M d mc ms post (pc + 1) lv (.int (Int32.ofNat L) :: st) h cu su) : XX l E M d mc ms post pc lv (.ref a :: st) h cu su := by
  intro p e s m args below meth c H locs ls K hR hS hL
  obtain ⟨hexec, hb, hml, hown, hts, hG, -, -, -, -, -, hbs⟩ := id K
  obtain ⟨g1, g2⟩ := hG.2.2.2.2.2.2.2.1 a L xs hx
  have e9 : en_v E (.ref a) = .ref (E.2.2.1 a) := by show Value.ref (en_a E a) = _; rw [en_a, if_pos ha]
  rw [List.map_cons, e9]
  exact va_slen hexec hb g1 (Nat.lt_of_lt_of_le g2 hbs) (Nat.not_le.mpr g2) hS hf (kk p e s m args below meth c H locs ls K hR hS hL)

theorem x_iald {f : Nat → Int32} (hf : decode M.2.1 pc = .ok (.iaload, 1)) (hh : ob h a = some (.inl (0, n, .inl f))) (hin : vp_in i n) (kk : XX l E M d mc ms post (pc + 1) lv (.int (f i.toNatClampNeg) :: st) h cu su) : XX l E M d mc ms post pc lv (.int i :: .ref a :: st) h cu su := by
  intro p e s m args below meth c H locs ls K hR hS hL
  obtain ⟨q, h1, -⟩ := en_find hR hh
  exact va_iald K.1 K.2.1 K.2.2.2.2.2.1.1 hR.2 q 0 h1 rfl hin hf (kk p e s m args below meth c H locs ls K hR hS hL)

theorem x_lald {f : Nat → Int64} (hf : decode M.2.1 pc = .ok (.laload, 1)) (hh : ob h a = some (.inl (1, n, .inr (.inl f)))) (hin : vp_in i n) (kk : XX l E M d mc ms post (pc + 1) lv (.long (f i.toNatClampNeg) :: st) h cu su) : XX l E M d mc ms post pc lv (.int i :: .ref a :: st) h cu su := by
  intro p e s m args below meth c H locs ls K hR hS hL
  obtain ⟨q, h1, -⟩ := en_find hR hh
  exact va_lald K.1 K.2.1 K.2.2.2.2.2.1.1 hR.2 q 1 h1 rfl hin hf (kk p e s m args below meth c H locs ls K hR hS hL)

theorem x_bald {f : Nat → Int32} (hf : decode M.2.1 pc = .ok (.baload, 1)) (hh : ob h a = some (.inl (2, n, .inl f))) (hin : vp_in i n) (kk : XX l E M d mc ms post (pc + 1) lv (.int (f i.toNatClampNeg) :: st) h cu su) : XX l E M d mc ms post pc lv (.int i :: .ref a :: st) h cu su := by
  intro p e s m args below meth c H locs ls K hR hS hL
  obtain ⟨q, h1, -⟩ := en_find hR hh
  exact va_bald K.1 K.2.1 K.2.2.2.2.2.1.1 hR.2 q 2 h1 rfl hin hf (kk p e s m args below meth c H locs ls K hR hS hL)

theorem x_zald {f : Nat → Int32} (hf : decode M.2.1 pc = .ok (.baload, 1)) (hh : ob h a = some (.inl (3, n, .inl f))) (hin : vp_in i n) (kk : XX l E M d mc ms post (pc + 1) lv (.int (f i.toNatClampNeg) :: st) h cu su) : XX l E M d mc ms post pc lv (.int i :: .ref a :: st) h cu su := by
  intro p e s m args below meth c H locs ls K hR hS hL
  obtain ⟨q, h1, -⟩ := en_find hR hh
  exact va_zald K.1 K.2.1 K.2.2.2.2.2.1.1 hR.2 q 3 h1 rfl hin hf (kk p e s m args below meth c H locs ls K hR hS hL)

theorem x_aald {f : Nat → Option Nat} {b : Nat} (hf : decode M.2.1 pc = .ok (.aaload, 1)) (hh : ob h a = some (.inl (4, n, .inr (.inr (.inr (.inr f)))))) (hin : vp_in i n) (hv : f i.toNatClampNeg = some b) (kk : XX l E M d mc ms post (pc + 1) lv (.ref b :: st) h cu su) : XX l E M d mc ms post pc lv (.int i :: .ref a :: st) h cu su := by
  intro p e s m args below meth c H locs ls K hR hS hL
  obtain ⟨q, h1, -⟩ := en_find hR hh
  have hlt : i.toNatClampNeg < n := Nat.not_le.mp fun q => hin (Or.inr q)
  have kw := kk p e s m args below meth c H locs ls K hR hS hL
  exact W.aald (v := va_rf (some (en_a E b))) (ty := .object RX6) K.1 K.2.1 (hR.2 q _ h1) ((en_tk K.2.2.2.2.2.1 4 rfl).1 n (fun j => va_rf ((f j).map (en_a E)))) rfl (fun q => by cases q) (by show ¬ (i < 0 ∨ (arrV _ _ _).slots.size ≤ _); rw [arrV_size]; exact hin) (by show (arrV (E.2.1 4) n (fun j => va_rf ((f j).map (en_a E)))).slots[_]? = _; rw [arrV_read _ _ hlt, hv]; rfl) rfl rfl hf kw

theorem x_gald {f : Nat → Option Nat} {b : Nat} (hf : decode M.2.1 pc = .ok (.aaload, 1)) (hh : ob h a = some (.inl (5, n, .inr (.inr (.inr (.inr f)))))) (hin : vp_in i n) (hv : f i.toNatClampNeg = some b) (kk : XX l E M d mc ms post (pc + 1) lv (.ref b :: st) h cu su) : XX l E M d mc ms post pc lv (.int i :: .ref a :: st) h cu su := by
  intro p e s m args below meth c H locs ls K hR hS hL
  obtain ⟨q, h1, -⟩ := en_find hR hh
  have hlt : i.toNatClampNeg < n := Nat.not_le.mp fun q => hin (Or.inr q)
  have kw := kk p e s m args below meth c H locs ls K hR hS hL
  exact W.aald (v := va_rf (some (en_a E b))) (ty := .array .int) K.1 K.2.1 (hR.2 q _ h1) ((en_tk K.2.2.2.2.2.1 5 rfl).1 n (fun j => va_rf ((f j).map (en_a E)))) rfl (fun q => by cases q) (by show ¬ (i < 0 ∨ (arrV _ _ _).slots.size ≤ _); rw [arrV_size]; exact hin) (by show (arrV (E.2.1 5) n (fun j => va_rf ((f j).map (en_a E)))).slots[_]? = _; rw [arrV_read _ _ hlt, hv]; rfl) rfl rfl hf kw

theorem x_iast {f : Nat → Int32} {x : Int32} (hf : decode M.2.1 pc = .ok (.iastore, 1)) (hh : ob h a = some (.inl (0, n, .inl f))) (hin : vp_in i n) (kk : XX l E M d mc ms post (pc + 1) lv st (stt h a (.inl (0, n, .inl (upd f i.toNatClampNeg x)))) cu su) : XX l E M d mc ms post pc lv (.int x :: .int i :: .ref a :: st) h cu su := by
  intro p e s m args below meth c H locs ls K hR hS hL
  obtain ⟨q, h1, -⟩ := en_find hR hh
  refine W.iast K.1 K.2.1 (hR.2 q _ h1) ((en_tk K.2.2.2.2.2.1 0 rfl).1 n (fun j => .int (f j))) (fun q => by cases q) (by show ¬ (i < 0 ∨ (arrV _ _ _).slots.size ≤ _); rw [arrV_size]; exact hin) rfl rfl hf fun H1 e9 z oq => ?_
  refine kk p e s m args below meth c H1 _ ls K (en_put hR hh z ?_ oq) (hS.put z oq (en_Aa hh)) hL
  show H1[en_a E a]? = some (vp_cell _ _)
  rw [e9]
  show some (Cell.setSlot (vp_cell (E.2.1 0) (n, .inl f)) _ _) = some (vp_cell (E.2.1 0) (n, .inl (upd f i.toNatClampNeg x)))
  rw [vp_cell_i, vp_cell_i, arrV_store]
  congr 2
  funext q
  by_cases hq : q = i.toNatClampNeg
  · subst hq
    simp [updV, upd]
  · simp [updV, upd, hq]

theorem x_last {f : Nat → Int64} {x : Int64} (hf : decode M.2.1 pc = .ok (.lastore, 1)) (hh : ob h a = some (.inl (1, n, .inr (.inl f)))) (hin : vp_in i n) (kk : XX l E M d mc ms post (pc + 1) lv st (stt h a (.inl (1, n, .inr (.inl (vp_updL f i.toNatClampNeg x))))) cu su) : XX l E M d mc ms post pc lv (.long x :: .int i :: .ref a :: st) h cu su := by
  intro p e s m args below meth c H locs ls K hR hS hL
  obtain ⟨q, h1, -⟩ := en_find hR hh
  refine W.last K.1 K.2.1 (hR.2 q _ h1) ((en_tk K.2.2.2.2.2.1 1 rfl).1 n (fun j => .long (f j))) (fun q => by cases q) (by show ¬ (i < 0 ∨ (arrV _ _ _).slots.size ≤ _); rw [arrV_size]; exact hin) rfl rfl hf fun H1 e9 z oq => ?_
  refine kk p e s m args below meth c H1 _ ls K (en_put hR hh z ?_ oq) (hS.put z oq (en_Aa hh)) hL
  show H1[en_a E a]? = some (vp_cell _ _)
  rw [e9]
  show some (Cell.setSlot (vp_cell (E.2.1 1) (n, .inr (.inl f))) _ _) = some (vp_cell (E.2.1 1) (n, .inr (.inl (vp_updL f i.toNatClampNeg x))))
  rw [vp_cell_l, vp_cell_l, arrV_store]
  congr 2
  funext q
  by_cases hq : q = i.toNatClampNeg
  · subst hq
    simp [updV, vp_updL]
  · simp [updV, vp_updL, hq]

theorem x_bast {f : Nat → Int32} {x : Int32} (hf : decode M.2.1 pc = .ok (.bastore, 1)) (hh : ob h a = some (.inl (2, n, .inl f))) (hin : vp_in i n) (kk : XX l E M d mc ms post (pc + 1) lv st (stt h a (.inl (2, n, .inl (upd f i.toNatClampNeg (vp_nar .byte x))))) cu su) : XX l E M d mc ms post pc lv (.int x :: .int i :: .ref a :: st) h cu su := by
  intro p e s m args below meth c H locs ls K hR hS hL
  obtain ⟨q, h1, -⟩ := en_find hR hh
  refine W.bast K.1 K.2.1 (hR.2 q _ h1) ((en_tk K.2.2.2.2.2.1 2 rfl).1 n (fun j => .int (f j))) (fun q => by cases q) (by show ¬ (i < 0 ∨ (arrV _ _ _).slots.size ≤ _); rw [arrV_size]; exact hin) rfl rfl hf fun H1 e9 z oq => ?_
  refine kk p e s m args below meth c H1 _ ls K (en_put hR hh z ?_ oq) (hS.put z oq (en_Aa hh)) hL
  show H1[en_a E a]? = some (vp_cell _ _)
  rw [e9]
  show some (Cell.setSlot (vp_cell (E.2.1 2) (n, .inl f)) _ _) = some (vp_cell (E.2.1 2) (n, .inl (upd f i.toNatClampNeg (vp_nar .byte x))))
  rw [vp_cell_i, vp_cell_i, arrV_store]
  congr 2
  funext q
  by_cases hq : q = i.toNatClampNeg
  · subst hq
    simp [updV, upd, vp_nar]
    try rfl
  · simp [updV, upd, hq]

theorem x_zast {f : Nat → Int32} {x : Int32} (hf : decode M.2.1 pc = .ok (.bastore, 1)) (hh : ob h a = some (.inl (3, n, .inl f))) (hin : vp_in i n) (kk : XX l E M d mc ms post (pc + 1) lv st (stt h a (.inl (3, n, .inl (upd f i.toNatClampNeg (vp_nar .boolean x))))) cu su) : XX l E M d mc ms post pc lv (.int x :: .int i :: .ref a :: st) h cu su := by
  intro p e s m args below meth c H locs ls K hR hS hL
  obtain ⟨q, h1, -⟩ := en_find hR hh
  refine W.zast K.1 K.2.1 (hR.2 q _ h1) ((en_tk K.2.2.2.2.2.1 3 rfl).1 n (fun j => .int (f j))) (fun q => by cases q) (by show ¬ (i < 0 ∨ (arrV _ _ _).slots.size ≤ _); rw [arrV_size]; exact hin) rfl rfl hf fun H1 e9 z oq => ?_
  refine kk p e s m args below meth c H1 _ ls K (en_put hR hh z ?_ oq) (hS.put z oq (en_Aa hh)) hL
  show H1[en_a E a]? = some (vp_cell _ _)
  rw [e9]
  show some (Cell.setSlot (vp_cell (E.2.1 3) (n, .inl f)) _ _) = some (vp_cell (E.2.1 3) (n, .inl (upd f i.toNatClampNeg (vp_nar .boolean x))))
  rw [vp_cell_i, vp_cell_i, arrV_store]
  congr 2
  funext q
  by_cases hq : q = i.toNatClampNeg
  · subst hq
    simp [updV, upd, vp_nar]
    try rfl
  · simp [updV, upd, hq]

theorem x_aast {f : Nat → Option Nat} {v : Nat} {fs : List Value} {T : u_T} {N : Nat} {ty : Nat → FieldType} (cl : en_CL 9 RX6 T N ty) (hf : decode M.2.1 pc = .ok (.aastore, 1)) (hh : ob h a = some (.inl (4, n, .inr (.inr (.inr (.inr f)))))) (hv : ob h v = some (.inr (9, fs))) (hin : vp_in i n) (kk : XX l E M d mc ms post (pc + 1) lv st (stt h a (.inl (4, n, .inr (.inr (.inr (.inr (va_up f i.toNatClampNeg (some v)))))))) cu su) : XX l E M d mc ms post pc lv (.ref v :: .int i :: .ref a :: st) h cu su := by
  intro p e s m args below meth c H locs ls K hR hS hL
  obtain ⟨q, h1, -⟩ := en_find hR hh
  obtain ⟨qv, h2, -⟩ := en_find hR hv
  have hG := K.2.2.2.2.2.1
  have hlt : i.toNatClampNeg < n := Nat.not_le.mp fun q => hin (Or.inr q)
  have h0 : ¬ i < 0 := fun q => hin (Or.inl q)
  obtain ⟨r9, hr9, cellV, g1, g2, g3, -⟩ := hR.2 qv _ h2
  have hcls := (hG.1.1 9 _ cl.1).2
  obtain ⟨kA, comp, k1, k2, k3, -⟩ := (en_tk hG 4 rfl).2
  have hcomp : comp = E.1.1 9 := Option.some.inj (k3.symm.trans hcls.1)
  subst hcomp
  obtain ⟨kC, hkC, -⟩ := id hcls.2
  refine W.aast K.1 K.2.1 (hR.2 q _ h1) (fun q h => by cases h) (fun h => by cases h) k1 k2 rfl hkC ⟨h0, by show _ < (arrV _ _ _).slots.size; rw [arrV_size]; exact hlt⟩ g1 (fun q h => by rw [g3] at h; cases h) (by rw [g2]; exact hkC) (by rw [g2]; exact va_assign hcls) rfl rfl hf fun H1 e9 z oq => ?_
  refine kk p e s m args below meth c H1 _ ls K (en_put hR hh z ?_ oq) (hS.put z oq (en_Aa hh)) hL
  show H1[en_a E a]? = some (vp_cell _ _)
  rw [e9]
  show some (Cell.setSlot (vp_cell (E.2.1 4) (n, .inr (.inr (.inr (.inr (fun j => (f j).map (en_a E))))))) _ _) = some (vp_cell (E.2.1 4) (n, .inr (.inr (.inr (.inr (fun j => ((va_up f i.toNatClampNeg (some v)) j).map (en_a E)))))))
  rw [vp_cell_q, vp_cell_q, arrV_store]
  congr 2
  funext q
  by_cases hq : q = i.toNatClampNeg
  · subst hq
    simp [updV, va_up, va_rf, en_v]
  · simp [updV, va_up, hq]

theorem x_newI (hf : decode M.2.1 pc = .ok (.newarray .int, 2)) (ha : Cond.arrayClass .int ∈ WS) (hi : ¬ i < 0) (hn : i.toNatClampNeg = n) (hby : n * componentBytes .int ≤ 536870912) (hc : cu + 1 ≤ mc) (hs : su + n ≤ ms) (kk : XX l E M d mc ms post (pc + 2) lv (.ref (32 + h.length) :: st) (h ++ [some (.inl (0, n, .inl (fun _ => 0)))]) (cu + 1) (su + n)) : XX l E M d mc ms post pc lv (.int i :: st) h cu su := by
  intro p e s m args below meth c H locs ls K hR hS hL
  refine va_newaK (atype := .int) K.1 K.2.1 (K.2.2.2.2.1 _ ha) rfl hf rfl hi hn hby hc hs rfl fun H1 cA e1 z1 o1 hAr hNm => ?_
  have hcA : E.2.1 0 = cA := Option.some.inj ((en_tk K.2.2.2.2.2.1 0 rfl).2.symm.trans hNm)
  subst hcA
  have k1 := kk p e s m args below meth c H1 locs ls K (en_push hR z1 e1 o1) ⟨Nat.le_trans hS.1 (by omega), fun x h1 h2 => (o1 x (Nat.lt_of_lt_of_le h1 hS.1)).trans (hS.2.1 x h1 h2), hS.2.2⟩ hL
  have e9 : en_v E (.ref (32 + h.length)) = .ref H.size := by
    show Value.ref (en_a E (32 + h.length)) = _
    rw [en_a_new, hR.1]
  rw [List.map_cons, e9] at k1
  exact k1

theorem x_newJ (hf : decode M.2.1 pc = .ok (.newarray .long, 2)) (ha : Cond.arrayClass .long ∈ WS) (hi : ¬ i < 0) (hn : i.toNatClampNeg = n) (hby : n * componentBytes .long ≤ 536870912) (hc : cu + 1 ≤ mc) (hs : su + n ≤ ms) (kk : XX l E M d mc ms post (pc + 2) lv (.ref (32 + h.length) :: st) (h ++ [some (.inl (1, n, .inr (.inl (fun _ => 0))))]) (cu + 1) (su + n)) : XX l E M d mc ms post pc lv (.int i :: st) h cu su := by
  intro p e s m args below meth c H locs ls K hR hS hL
  refine va_newaK (atype := .long) K.1 K.2.1 (K.2.2.2.2.1 _ ha) rfl hf rfl hi hn hby hc hs rfl fun H1 cA e1 z1 o1 hAr hNm => ?_
  have hcA : E.2.1 1 = cA := Option.some.inj ((en_tk K.2.2.2.2.2.1 1 rfl).2.symm.trans hNm)
  subst hcA
  have k1 := kk p e s m args below meth c H1 locs ls K (en_push hR z1 e1 o1) ⟨Nat.le_trans hS.1 (by omega), fun x h1 h2 => (o1 x (Nat.lt_of_lt_of_le h1 hS.1)).trans (hS.2.1 x h1 h2), hS.2.2⟩ hL
  have e9 : en_v E (.ref (32 + h.length)) = .ref H.size := by
    show Value.ref (en_a E (32 + h.length)) = _
    rw [en_a_new, hR.1]
  rw [List.map_cons, e9] at k1
  exact k1

theorem x_newB (hf : decode M.2.1 pc = .ok (.newarray .byte, 2)) (ha : Cond.arrayClass .byte ∈ WS) (hi : ¬ i < 0) (hn : i.toNatClampNeg = n) (hby : n * componentBytes .byte ≤ 536870912) (hc : cu + 1 ≤ mc) (hs : su + n ≤ ms) (kk : XX l E M d mc ms post (pc + 2) lv (.ref (32 + h.length) :: st) (h ++ [some (.inl (2, n, .inl (fun _ => 0)))]) (cu + 1) (su + n)) : XX l E M d mc ms post pc lv (.int i :: st) h cu su := by
  intro p e s m args below meth c H locs ls K hR hS hL
  refine va_newaK (atype := .byte) K.1 K.2.1 (K.2.2.2.2.1 _ ha) rfl hf rfl hi hn hby hc hs rfl fun H1 cA e1 z1 o1 hAr hNm => ?_
  have hcA : E.2.1 2 = cA := Option.some.inj ((en_tk K.2.2.2.2.2.1 2 rfl).2.symm.trans hNm)
  subst hcA
  have k1 := kk p e s m args below meth c H1 locs ls K (en_push hR z1 e1 o1) ⟨Nat.le_trans hS.1 (by omega), fun x h1 h2 => (o1 x (Nat.lt_of_lt_of_le h1 hS.1)).trans (hS.2.1 x h1 h2), hS.2.2⟩ hL
  have e9 : en_v E (.ref (32 + h.length)) = .ref H.size := by
    show Value.ref (en_a E (32 + h.length)) = _
    rw [en_a_new, hR.1]
  rw [List.map_cons, e9] at k1
  exact k1

theorem x_newZ (hf : decode M.2.1 pc = .ok (.newarray .boolean, 2)) (ha : Cond.arrayClass .boolean ∈ WS) (hi : ¬ i < 0) (hn : i.toNatClampNeg = n) (hby : n * componentBytes .boolean ≤ 536870912) (hc : cu + 1 ≤ mc) (hs : su + n ≤ ms) (kk : XX l E M d mc ms post (pc + 2) lv (.ref (32 + h.length) :: st) (h ++ [some (.inl (3, n, .inl (fun _ => 0)))]) (cu + 1) (su + n)) : XX l E M d mc ms post pc lv (.int i :: st) h cu su := by
  intro p e s m args below meth c H locs ls K hR hS hL
  refine va_newaK (atype := .boolean) K.1 K.2.1 (K.2.2.2.2.1 _ ha) rfl hf rfl hi hn hby hc hs rfl fun H1 cA e1 z1 o1 hAr hNm => ?_
  have hcA : E.2.1 3 = cA := Option.some.inj ((en_tk K.2.2.2.2.2.1 3 rfl).2.symm.trans hNm)
  subst hcA
  have k1 := kk p e s m args below meth c H1 locs ls K (en_push hR z1 e1 o1) ⟨Nat.le_trans hS.1 (by omega), fun x h1 h2 => (o1 x (Nat.lt_of_lt_of_le h1 hS.1)).trans (hS.2.1 x h1 h2), hS.2.2⟩ hL
  have e9 : en_v E (.ref (32 + h.length)) = .ref H.size := by
    show Value.ref (en_a E (32 + h.length)) = _
    rw [en_a_new, hR.1]
  rw [List.map_cons, e9] at k1
  exact k1

theorem x_newQ {index : Nat} (hf : decode M.2.1 pc = .ok (.anewarray index, 3)) (hcl : Cond.classLink M.1.cls index RX6 ∈ WS) (hi : ¬ i < 0) (hn : i.toNatClampNeg = n) (hby : n * 4 ≤ 536870912) (hc : cu + 1 ≤ mc) (hs : su + n ≤ ms) (kk : XX l E M d mc ms post (pc + 3) lv (.ref (32 + h.length) :: st) (h ++ [some (.inl (4, n, .inr (.inr (.inr (.inr (fun _ => none))))))]) (cu + 1) (su + n)) : XX l E M d mc ms post pc lv (.int i :: st) h cu su := by
  intro p e s m args below meth c H locs ls K hR hS hL
  subst hn
  refine W.anew K.1 K.2.1 K.2.2.2.1 (K.2.2.2.2.1 _ hcl) (va_AO.use K.2.2.2.2.2.1.2.2.2.2.2.1) rfl hf rfl hi hby hc hs fun cA kA comp f1 f2 f3 f4 => ?_
  generalize hH1 : H.push ({ cls := cA, slots := Array.replicate i.toNatClampNeg .null, vm := .none } : Cell) = H1
  have z1 : H1.size = H.size + 1 := by rw [← hH1, Array.size_push]
  have e1 : H1[H.size]? = some (arrV cA i.toNatClampNeg (fun _ => .null)) := by rw [← hH1, Array.getElem?_push_size, ← arrV_new]
  have o1 : ∀ q : Nat, q < H.size → H1[q]? = H[q]? := fun q hq => by rw [← hH1, Array.getElem?_push, if_neg (Nat.ne_of_lt hq)]
  obtain ⟨kA9, comp9, k1, k2, k3, k4⟩ := (en_tk K.2.2.2.2.2.1 4 rfl).2
  have hcA : E.2.1 4 = cA := Option.some.inj (k4.symm.trans f1)
  subst hcA
  have k1 := kk p e s m args below meth c H1 locs ls K (en_push hR z1 e1 o1) ⟨Nat.le_trans hS.1 (by omega), fun x h1 h2 => (o1 x (Nat.lt_of_lt_of_le h1 hS.1)).trans (hS.2.1 x h1 h2), hS.2.2⟩ hL
  have e9 : en_v E (.ref (32 + h.length)) = .ref H.size := by
    show Value.ref (en_a E (32 + h.length)) = _
    rw [en_a_new, hR.1]
  rw [List.map_cons, e9] at k1
  exact k1
end ARR
