theorem clu0 : ∀ w ∈ u_ws RJ0 TJ0 4, w ∈ WS := List.forall_mem_cons.mpr ⟨t_1742, List.forall_mem_cons.mpr ⟨t_1744, List.forall_mem_cons.mpr ⟨t_1746, List.forall_mem_cons.mpr ⟨t_1748, fun _ h => nomatch h⟩⟩⟩⟩
theorem clu1 : ∀ w ∈ u_ws RJ4 TJ4 4, w ∈ WS := List.forall_mem_cons.mpr ⟨t_1549, List.forall_mem_cons.mpr ⟨t_1551, List.forall_mem_cons.mpr ⟨t_1553, List.forall_mem_cons.mpr ⟨t_1555, fun _ h => nomatch h⟩⟩⟩⟩
theorem clu2 : ∀ w ∈ u_ws RJx00060 TJx00060 6, w ∈ WS := List.forall_mem_cons.mpr ⟨t_1757, List.forall_mem_cons.mpr ⟨t_1758, List.forall_mem_cons.mpr ⟨t_1759, List.forall_mem_cons.mpr ⟨t_1760, List.forall_mem_cons.mpr ⟨t_1761, List.forall_mem_cons.mpr ⟨t_1775, fun _ h => nomatch h⟩⟩⟩⟩⟩⟩
section ENT
theorem en_classes {args : Array Value} {s : State} (hw : ∀ w ∈ WS, w.before args s = true) : ∃ (dC : Nat → ClassId) (dI : Nat → Nat → Nat), ∀ (k : Nat) (q : vw_C), vwCl[k]? = some q → u_Kn s q.1 q.2.1 q.2.2 (dC k) (dI k) := by
  have hall : ∀ k : Nat, ∃ z : ClassId × (Nat → Nat), ∀ q : vw_C, vwCl[k]? = some q → u_Kn s q.1 q.2.1 q.2.2 z.1 z.2 := by
    have h9 : ∀ k : Nat, k < 16 → ∃ (cC : ClassId) (iS : Nat → Nat), ∀ q : vw_C, vwCl[k]? = some q → u_Kn s q.1 q.2.1 q.2.2 cC iS := by
      intro k hk
      rcases (show k = 0 ∨ k = 1 ∨ k = 2 ∨ k = 3 ∨ k = 4 ∨ k = 5 ∨ k = 6 ∨ k = 7 ∨ k = 8 ∨ k = 9 ∨ k = 10 ∨ k = 11 ∨ k = 12 ∨ k = 13 ∨ k = 14 ∨ k = 15 by omega) with rfl | rfl | rfl | rfl | rfl | rfl | rfl | rfl | rfl | rfl | rfl | rfl | rfl | rfl | rfl | rfl
      · obtain ⟨cC, iS, hh⟩ := u_known (C := RJ0) (T := TJ0) (N := 4) (n := 4) hw clu0 (hw _ t_1686)
        exact ⟨cC, iS, fun q hq => by cases hq; exact hh⟩
      · obtain ⟨cC, iS, hh⟩ := u_known (C := RJ4) (T := TJ4) (N := 4) (n := 4) hw clu1 (hw _ t_1529)
        exact ⟨cC, iS, fun q hq => by cases hq; exact hh⟩
      · obtain ⟨cC, iS, hh⟩ := u_known (C := RJx00060) (T := TJx00060) (N := 6) (n := 6) hw clu2 (hw _ t_1752)
        exact ⟨cC, iS, fun q hq => by cases hq; exact hh⟩
      · obtain ⟨cC, iS, hh⟩ := u_known (C := RX0) (T := TX0) (N := 13) (n := 13) hw clu3 (hw _ t_146)
        exact ⟨cC, iS, fun q hq => by cases hq; exact hh⟩
      · obtain ⟨cC, iS, hh⟩ := u_known (C := RX1) (T := TX1) (N := 11) (n := 11) hw clu4 (hw _ t_223)
        exact ⟨cC, iS, fun q hq => by cases hq; exact hh⟩
      · obtain ⟨cC, iS, hh⟩ := u_known (C := RX2) (T := TX2) (N := 17) (n := 17) hw clu5 (hw _ t_480)
        exact ⟨cC, iS, fun q hq => by cases hq; exact hh⟩
      · obtain ⟨cC, iS, hh⟩ := u_known (C := RX3) (T := TX3) (N := 12) (n := 12) hw clu6 (hw _ t_435)
        exact ⟨cC, iS, fun q hq => by cases hq; exact hh⟩
      · obtain ⟨cC, iS, hh⟩ := u_known (C := RX4) (T := TX4) (N := 17) (n := 17) hw clu7 (hw _ t_375)
        exact ⟨cC, iS, fun q hq => by cases hq; exact hh⟩
      · obtain ⟨cC, iS, hh⟩ := u_known (C := RX5) (T := TX5) (N := 8) (n := 8) hw clu8 (hw _ t_229)
        exact ⟨cC, iS, fun q hq => by cases hq; exact hh⟩
      · obtain ⟨cC, iS, hh⟩ := u_known (C := RX6) (T := TX6) (N := 5) (n := 5) hw clu9 (hw _ t_45)
        exact ⟨cC, iS, fun q hq => by cases hq; exact hh⟩
      · obtain ⟨cC, iS, hh⟩ := u_known (C := RX7) (T := TX7) (N := 5) (n := 5) hw clu10 (hw _ t_538)
        exact ⟨cC, iS, fun q hq => by cases hq; exact hh⟩
      · obtain ⟨cC, iS, hh⟩ := u_known (C := RX8) (T := TX8) (N := 13) (n := 13) hw clu11 (hw _ t_320)
        exact ⟨cC, iS, fun q hq => by cases hq; exact hh⟩
      · obtain ⟨cC, iS, hh⟩ := u_known (C := RX9) (T := TX9) (N := 12) (n := 12) hw clu12 (hw _ t_100)
        exact ⟨cC, iS, fun q hq => by cases hq; exact hh⟩
      · obtain ⟨cC, iS, hh⟩ := u_known (C := RX10) (T := TX10) (N := 6) (n := 6) hw clu13 (hw _ t_195)
        exact ⟨cC, iS, fun q hq => by cases hq; exact hh⟩
      · obtain ⟨cC, iS, hh⟩ := u_known (C := RX11) (T := TX11) (N := 19) (n := 19) hw clu14 (hw _ t_36)
        exact ⟨cC, iS, fun q hq => by cases hq; exact hh⟩
      · obtain ⟨cC, iS, hh⟩ := u_known (C := RX12) (T := TX12) (N := 135) (n := 135) hw clu15 (hw _ t_2380)
        exact ⟨cC, iS, fun q hq => by cases hq; exact hh⟩
    intro k
    rcases Nat.lt_or_ge k 16 with h | h
    · obtain ⟨cC, iS, hh⟩ := h9 k h
      exact ⟨(cC, iS), hh⟩
    · obtain ⟨cC, iS, -⟩ := h9 0 (by omega)
      exact ⟨(cC, iS), fun q hq => absurd (List.getElem?_eq_some_iff.mp hq).1 (Nat.not_lt.mpr h)⟩
  obtain ⟨f, hf⟩ := Classical.axiomOfChoice hall
  exact ⟨fun k => (f k).1, fun k => (f k).2, hf⟩
theorem en_arr {args : Array Value} {s : State} {t : FieldType} (h : (Cond.arrayClass t).before args s = true) (ho : ∀ C, t ≠ .object C) : ∃ c : ClassId, ArrOfT s c t ∧ va_RA s c t := by
  obtain ⟨c, k, comp, h1, h2, h3⟩ := Cond.arrayClass_spec h
  refine ⟨c, fun N z => ⟨(fun q hq => by cases hq), k, h2, comp, h3⟩, ?_⟩
  cases t <;> first | exact h1 | exact absurd rfl (ho _)
theorem en_arrO {args : Array Value} {s : State} {C : String} (h : (Cond.arrayOver (.object C)).before args s = true) : ∃ c : ClassId, ArrOfT s c (.object C) ∧ va_RA s c (.object C) := by
  obtain ⟨comp, c, k, h1, h2, h3, h4, h5⟩ := Cond.arrayOver_spec h
  exact ⟨c, fun N z => ⟨(fun q hq => by cases hq), k, h3, comp, h4⟩, k, comp, h3, h4, h1, h5⟩
theorem en_arrA {args : Array Value} {s : State} {t : FieldType} (h : (Cond.arrayOver (.array t)).before args s = true) : ∃ c : ClassId, ArrOfT s c (.array t) ∧ va_RA s c (.array t) := by
  obtain ⟨comp, c, k, h1, h2, h3, h4, h5⟩ := arrayOverA_spec h
  exact ⟨c, fun N z => ⟨(fun q hq => by cases hq), k, h3, comp, h4⟩, h5⟩
theorem en_stand {p : Program} {l : Launch} {e : Env} {R R' : Room} {s : State} {m : MethodId} {args : Array Value} {below : List Frame} {meth : Method} {c : Code} {T : State} {locs : List Loc} {cells slots : Nat} (X : Stand p l e R s m args below meth c T locs cells slots) (hf : R'.frames ≤ R.frames) (hl : R'.locals ≤ R.locals) (hc : R'.cells ≤ R.cells) (hs : R'.slots ≤ R.slots) : Stand p l e R' s m args below meth c T locs cells slots :=
  { X with room := hasRoom_mono hf hl hc hs X.room }
def M_law (nm : String) : MRec := (⟨RL, nm, "([I)Z"⟩, code, 8, ret, [])
/-- the law's walk, from the entry's facts -/
theorem en_start {p : Program} {e : Env} {s : State} {m : MethodId} {below : List Frame} {meth : Method} {c : Code} (l : Launch) (hls : l.stackTraces = false) {b L : Nat} {xs : Nat → Int32} (hexec : p.tables.exec = Jvm.exec) (hb : c.code = code) (hr : meth.sig.returnType = ret) (hml : c.maxLocals = 8) (hown : s.vm.findClass RL = some m.cls) (hts : ∀ w ∈ lw_tbl, w.before #[Value.ref b] s = true) (hX : va_X b L xs s s.heap) (hbl : b < s.heap.size) (hlk : meth.locks = false) (htab : c.exceptionTable.toList = [])
    (hgv : (Jvm.Cond.and given_1 narrow_1).before #[Value.ref b] s = true)
    (hXX : ∀ (E : EE) (nm : String), E.2.2.2.2 0 = some (L, xs) → XX l E (M_law nm) 1312 601024 7293000 (fun o _ => o = .inl (some (.int 1))) 0 (en_pad 8 [some (.ref 0)]) [] [] 0 0) :
    ∀ T : State, T.heap = s.heap → Stand p l e room_1 s m #[Value.ref b] below meth c T [] 0 0 → ∃ t, Steps p.tables e below (T.setTop (entryFrame m ([Value.ref b] : List Value).toArray 8)) t ∧ ∃ o, t.status = .running ∧ Ended t below o ∧ o = .returned (some (.int 1)) ∧ Framed s o t [] 601024 7293000 := by
  intro T hT X0
  have hw : ∀ w ∈ WS, w.before #[Value.ref b] s = true := fun w hw => hts w (List.mem_filter.mp hw).1
  have ht1 : ∀ w ∈ tables_1, w.before #[Value.ref b] s = true := fun w hw => hts w (List.mem_append_right _ hw)
  have hgs := flat_of_before _ hgv
  obtain ⟨dC, dI, hcl⟩ := en_classes hw
  obtain ⟨cI, hI⟩ := en_arr (hw _ t_97) (fun C h => by cases h)
  obtain ⟨cJ, hJ⟩ := en_arr (hw _ t_193) (fun C h => by cases h)
  obtain ⟨cB, hB⟩ := en_arr (hw _ t_144) (fun C h => by cases h)
  obtain ⟨cZ, hZ⟩ := en_arr (hw _ t_433) (fun C h => by cases h)
  have hAO : (Cond.arrayOver (.object RX6)).before #[Value.ref b] s = true := ht1 _ (List.mem_append_left _ (List.mem_of_getElem? (i := 44) rfl))
  have hAA : (Cond.arrayOver (.array .int)).before #[Value.ref b] s = true := ht1 _ (List.mem_append_right _ (List.mem_append_right _ (List.mem_append_left _ (List.mem_of_getElem? (i := 64) rfl))))
  obtain ⟨cS, hS⟩ := en_arrO hAO
  obtain ⟨cG, hG⟩ := en_arrA hAA
  obtain ⟨F9, hF0, hF9⟩ := en_X0 hgv hw ht1 (A := fun q => s.heap.size ≤ q) (fun a h q => by omega)
  obtain ⟨E, hE⟩ : ∃ E : EE, E = ((dC, dI), (fun k => ([cI, cJ, cB, cZ, cS, cG] : List ClassId).getD k cI), F9, s.heap.size, (fun k => if k = 0 then some (L, xs) else none)) := ⟨_, rfl⟩
  have e1 : E.1 = (dC, dI) := by rw [hE]
  have e4 : en_b E = s.heap.size := by rw [hE]; rfl
  have e3 : E.2.2.1 0 = b := by rw [hE]; exact hF0
  have e5 : E.2.2.2.2 0 = some (L, xs) := by rw [hE]; rfl
  have hnA : ∀ a : Nat, a < s.heap.size → ¬ en_A E a := fun a h q => by unfold en_A at q; rw [e4] at q; omega
  have hGE : en_G E s := by
    refine ⟨⟨by rw [e1]; exact hcl, ?_⟩, fun w hw9 => ?_, vx_Zqof (ht1 _ (List.mem_append_right _ (List.mem_append_right _ (List.mem_append_left _ (List.mem_of_getElem? (i := 190) rfl))))) (hw _ t_15) (hgs _ (by decide +kernel)) hnA, vx_Zqof (ht1 _ (List.mem_append_right _ (List.mem_append_right _ (List.mem_append_left _ (List.mem_of_getElem? (i := 192) rfl))))) (hw _ t_15) (hgs _ (by decide +kernel)) hnA, ?_, va_AO.of hAO, va_AOA.of hAA, ?_, by subst hE; exact hF9⟩
    · intro k q hk
      subst hE
      match k, hk with
      | 0, hk => cases hk; exact hI
      | 1, hk => cases hk; exact hJ
      | 2, hk => cases hk; exact hB
      | 3, hk => cases hk; exact hZ
      | 4, hk => cases hk; exact hS
      | 5, hk => cases hk; exact hG
      | k + 6, hk => cases hk
    · have h9 := List.mem_filter.mp hw9
      exact va_Nw.of (by have := h9.2; cases w <;> first | rfl | exact Bool.noConfusion this) (ht1 w h9.1)
    · intro a ha b9 hb9 hne
      simp only [en_ex, List.mem_cons, List.not_mem_nil, or_false] at ha hb9
      rcases ha with rfl | rfl | rfl | rfl <;> rcases hb9 with rfl | rfl | rfl | rfl <;> first | exact absurd rfl hne | exact va_Nc.of (hgs _ (by decide +kernel))
    · intro k L9 xs9 hk
      subst hE
      by_cases q : k = 0
      · subst q
        cases hk
        show va_X (F9 0) _ _ _ _ ∧ F9 0 < _
        rw [hF0]
        exact ⟨hX, hbl⟩
      · simp only [if_neg q] at hk
        cases hk
  have K : en_K l E (M_law meth.name) p s m #[Value.ref b] meth c := ⟨hexec, hb, hml, hown, hw, hGE, hlk, hr, htab, rfl, hls, by rw [e4]; exact Nat.le_refl _⟩
  have hR0 : en_R E [] s.heap := ⟨by rw [e4]; rfl, fun k q h => by simp [en_w] at h⟩
  have hl9 := lv_entry ([.ref b]) (n := 8) (Nat.le_of_ble_eq_true rfl)
  rw [lg_entry_eq]
  have e9 : en_v E (.ref 0) = .ref b := by show Value.ref (en_a E 0) = _; unfold en_a; rw [if_pos (by omega), e3]
  obtain ⟨t, a1, o, b1, b2, b3⟩ := hXX E meth.name e5 p e s m #[Value.ref b] below meth c s.heap [] _ K hR0 va_S.rf ⟨hl9.1, hl9.2.1, fun i v hv => by
      have h1 := en_pad_in _ _ i v hv
      match i, h1 with
      | 0, h1 =>
        cases h1
        rw [e9]
        exact hl9.2.2 (0, .ref b) List.mem_cons_self
      | i + 1, h1 => simp at h1⟩ T hT (en_stand X0 (Nat.le_of_ble_eq_true rfl) (Nat.le_of_ble_eq_true rfl) (Nat.le_refl _) (Nat.le_refl _))
  refine ⟨t, a1, o, b1, b2, ?_⟩
  rcases b3 with ⟨⟨v, h', q1, q2, -⟩, L9, ⟨g1, g2, g3⟩, g4⟩ | ⟨q, q1, N, ce, L9, ⟨h', q2, -⟩, -⟩
  · have hv : v = some (.int 1) := by cases q2; rfl
    subst hv
    exact ⟨q1, g1, g2, g3.weaken (fun y hy hlt => absurd (g4 y hy) (hnA _ hlt)) (Nat.le_refl _) (Nat.le_refl _)⟩
  · cases q2
end ENT
