section GRD
variable {l : Launch} {E : EE} {M : MRec} {d mc ms : Nat} {post : Outc → HP → Prop} {pc : Nat} {lv : LVs} {st rest : List Value} {h : HP} {cu su index : Nat}
theorem en_pushes {E : EE} {e : PEnt} : ∀ (n : Nat) (h : HP) (H : Heap), H.size = en_b E + h.length + n → va_P E.1 vwCl (en_w E (en_b E) h) H → (∀ j : Nat, j < n → va_at E.1 vwCl (en_b E + h.length + j, en_e E e) H) → va_P E.1 vwCl (en_w E (en_b E) (h ++ List.replicate n (some e))) H := by
  intro n
  induction n with
  | zero => intro h H hz hP hv; simpa using hP
  | succ n ih =>
    intro h H hz hP hv
    rw [List.replicate_succ, show h ++ some e :: List.replicate n (some e) = (h ++ [some e]) ++ List.replicate n (some e) by simp]
    refine ih (h ++ [some e]) H ?_ ?_ ?_
    · rw [List.length_append, hz]; simp only [List.length_cons, List.length_nil]; omega
    · rw [en_app]
      refine hP.app (fun k q hk => ?_)
      have hz2 : k < 1 := (List.getElem?_eq_some_iff.mp hk).1
      rw [show k = 0 by omega] at hk
      cases hk
      exact hv 0 (by omega)
    · intro j hj
      have := hv (j + 1) (by omega)
      rw [List.length_append]
      simp only [List.length_cons, List.length_nil]
      rw [show en_b E + (h.length + (0 + 1)) + j = en_b E + h.length + (j + 1) by omega]
      exact this
/-- new int[n][k] -/
theorem x_newG {n k : Int32} {N K9 : Nat} (hf : decode M.2.1 pc = .ok (.multianewarray index 2, 4)) (hcl : Cond.classLink M.1.cls index ("[" ++ (FieldType.array .int).toString) ∈ WS) (ha : Cond.arrayClass .int ∈ WS) (hn : ¬ n < 0) (hk : ¬ k < 0) (hN : n.toNatClampNeg = N) (hK : k.toNatClampNeg = K9) (hb1 : N * 4 ≤ 536870912) (hb2 : K9 * componentBytes .int ≤ 536870912) (hb3 : K9 ≤ 536870912) (hc : cu + (1 + N) ≤ mc) (hs : su + (N + N * K9) ≤ ms)
    (kk : XX l E M d mc ms post (pc + 4) lv (.ref (32 + h.length) :: rest) ((h ++ [some (.inl (5, N, .inr (.inr (.inr (.inr (fun i => if i < N then some (32 + h.length + 1 + i) else none))))))]) ++ List.replicate N (some (.inl (0, K9, .inl (fun _ => 0))))) (cu + 1 + N) (su + N + N * K9)) : XX l E M d mc ms post pc lv (.int k :: .int n :: rest) h cu su := by
  intro p e s m args below meth c H locs ls K hR hS hL
  subst hN
  subst hK
  intro T hT Xs
  obtain ⟨vm₁, cA, comp, -, fA, fC, hO, -, X', step⟩ := Xs.multianewarray2F K.1 K.2.2.2.1 (K.2.2.2.2.1 _ hcl) (va_AOA.use K.2.2.2.2.2.1.2.2.2.2.2.2.1) (K.2.2.2.2.1 _ ha) (g := F0 m pc ls (.int k :: .int n :: rest.map (en_v E))) rfl (by rw [K.2.1]; exact hf) rfl hn hk hb1 hb2 hb3 rfl rfl hc hs
  have e5 : E.2.1 5 = cA := Option.some.inj ((en_tk K.2.2.2.2.2.1 5 rfl).2.symm.trans fA)
  have e0 : E.2.1 0 = comp := Option.some.inj ((en_tk K.2.2.2.2.2.1 0 rfl).2.symm.trans fC)
  subst e5
  subst e0
  generalize hF : Jvm.Free.Multi.fill (T.setVm vm₁) (E.2.1 5) (E.2.1 0) n.toNatClampNeg k.toNatClampNeg (defaultValue .int) n.toNatClampNeg = F at X' step
  have hTh : (T.setVm vm₁).heap = H := hT
  obtain ⟨f1, f2, -, -⟩ := Jvm.Free.Multi.fill_facts (T.setVm vm₁) (E.2.1 5) (E.2.1 0) n.toNatClampNeg k.toNatClampNeg (defaultValue .int) n.toNatClampNeg
  rw [hF, hTh] at f1 f2
  have hold : ∀ x : Nat, x < H.size → F.heap[x]? = H[x]? := fun x hx => by
    have := Jvm.Free.Multi.fill_old (T.setVm vm₁) (E.2.1 5) (E.2.1 0) n.toNatClampNeg k.toNatClampNeg (defaultValue .int) (a := x) (by rw [hTh]; exact hx) n.toNatClampNeg
    rw [hF, hTh] at this
    exact this
  have hrow : ∀ j : Nat, j < n.toNatClampNeg → F.heap[H.size + 1 + j]? = some (vp_cell (E.2.1 0) (k.toNatClampNeg, .inl (fun _ => 0))) := fun j hj => by
    have := Jvm.Free.Multi.fill_inner (T.setVm vm₁) (E.2.1 5) (E.2.1 0) n.toNatClampNeg k.toNatClampNeg (defaultValue .int) n.toNatClampNeg j hj
    rw [hF, hTh] at this
    rw [this, vp_cell_i]
    show some (Jvm.Free.Multi.innerC _ _ _) = _
    unfold Jvm.Free.Multi.innerC
    rw [← arrV_new]
    rfl
  have hout : Jvm.Free.Multi.outerC (E.2.1 5) n.toNatClampNeg H.size n.toNatClampNeg = vp_cell (E.2.1 5) (n.toNatClampNeg, .inr (.inr (.inr (.inr (fun i => (if i < n.toNatClampNeg then some (32 + h.length + 1 + i) else none).map (en_a E)))))) := by
    rw [vp_cell_q, vr_outer (E.2.1 5) n.toNatClampNeg H.size n.toNatClampNeg]
    congr 1
    funext i
    by_cases hi : i < n.toNatClampNeg
    · rw [if_pos hi, if_pos hi]
      show va_rf (some _) = va_rf (some (en_a E _))
      rw [en_a_dyn (by omega), hR.1, show en_b E + (32 + h.length + 1 + i - 32) = en_b E + h.length + 1 + i by omega]
    · rw [if_neg hi, if_neg hi]
      rfl
  rw [hout] at f2
  have hR1 : en_R E ((h ++ [some (.inl (5, n.toNatClampNeg, .inr (.inr (.inr (.inr (fun i => if i < n.toNatClampNeg then some (32 + h.length + 1 + i) else none))))))]) ++ List.replicate n.toNatClampNeg (some (.inl (0, k.toNatClampNeg, .inl (fun _ => 0))))) F.heap := by
    have hz1 : F.heap.size = en_b E + (h ++ [some ((.inl (5, n.toNatClampNeg, .inr (.inr (.inr (.inr (fun i => if i < n.toNatClampNeg then some (32 + h.length + 1 + i) else none)))))) : PEnt)]).length + n.toNatClampNeg := by
      rw [f1, hR.1, List.length_append]; simp only [List.length_cons, List.length_nil]; omega
    refine ⟨by rw [hz1]; simp only [List.length_append, List.length_replicate]; omega, en_pushes _ _ _ hz1 ?_ ?_⟩
    · rw [en_app]
      refine (hR.2.kept (fun k9 q hk9 => hold q.1 ?_)).app (fun k9 q hk9 => ?_)
      · have := (en_ge E h (en_b E) k9 q hk9).2
        rw [hR.1]; exact this
      · have hz2 : k9 < 1 := (List.getElem?_eq_some_iff.mp hk9).1
        rw [show k9 = 0 by omega] at hk9
        cases hk9
        show F.heap[en_b E + h.length]? = _
        rw [← hR.1]
        exact f2
    · intro j hj
      show F.heap[_]? = _
      rw [List.length_append]
      simp only [List.length_cons, List.length_nil]
      rw [show en_b E + (h.length + (0 + 1)) + j = H.size + 1 + j by rw [hR.1]; omega]
      exact hrow j hj
  obtain ⟨t, a1, b1⟩ := kk p e s m args below meth c F.heap locs ls K hR1 ⟨by rw [f1]; have := hS.1; omega, fun x h1 h2 => (hold x (Nat.lt_of_lt_of_le h1 hS.1)).trans (hS.2.1 x h1 h2), hS.2.2⟩ hL F rfl X'
  refine ⟨t, step t ?_, b1⟩
  have e9 : en_v E (.ref (32 + h.length)) = .ref T.heap.size := by
    show Value.ref (en_a E (32 + h.length)) = _
    rw [en_a_new, hT, hR.1]
  rw [List.map_cons, e9] at a1
  exact a1
end GRD
