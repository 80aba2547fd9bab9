set_option maxHeartbeats 1000000 in
/-- Arrays.fill over a whole row of ints -/
theorem c_fill_I {l : Launch} {E : EE} (hl : l.stackTraces = false) {h : HP} {a n : Nat} {f : Nat → Int32} {v : Int32} (hh : ob h a = some (.inl (0, n, .inl f))) (hn : n < 2 ^ 31) : en_C l E M_J7_fill_53178 1 0 0 [.ref a, .int v] h (pR none (stt h a (.inl (0, n, .inl (fun j => if j < n then v else f j))))) := by
  have loop : ∀ (m i : Nat), i + m = n → XX l E M_J7_fill_53178 1 0 0 (pR none (stt h a (.inl (0, n, .inl (fun j => if j < n then v else f j))))) 5 [some (.ref a), some (.int v), some (.int (nI i)), some (.int (nI n))] [] (stt h a (.inl (0, n, .inl (fun j => if j < i then v else f j)))) 0 0 := by
    intro m
    induction m with
    | zero =>
      intro i hi
      have hi2 : i = n := by omega
      subst hi2
      refine x_iload_n (M := M_J7_fill_53178) dJ7_fill_53178_5 rfl ?_
      refine x_iload_n (M := M_J7_fill_53178) dJ7_fill_53178_6 rfl ?_
      refine x_icmp_ge (M := M_J7_fill_53178) (tgt := 20) dJ7_fill_53178_7 (by decide) (fun _ => ?_) (fun q => absurd (nI_le (Nat.le_refl i) hn) q)
      exact x_vret (M := M_J7_fill_53178) dJ7_fill_53178_20 rfl ⟨rfl, rfl⟩ (Nat.le_refl _) (Nat.le_refl _)
    | succ m ih =>
      intro i hi
      have hlt : i < n := by omega
      refine x_iload_n (M := M_J7_fill_53178) dJ7_fill_53178_5 rfl ?_
      refine x_iload_n (M := M_J7_fill_53178) dJ7_fill_53178_6 rfl ?_
      refine x_icmp_ge (M := M_J7_fill_53178) (tgt := 20) dJ7_fill_53178_7 (by decide) (fun q => absurd q (nI_ge hlt hn)) (fun _ => ?_)
      refine x_aload_n (M := M_J7_fill_53178) dJ7_fill_53178_10 rfl ?_
      refine x_iload_n (M := M_J7_fill_53178) dJ7_fill_53178_11 rfl ?_
      refine x_iload_n (M := M_J7_fill_53178) dJ7_fill_53178_12 rfl ?_
      refine x_iast (M := M_J7_fill_53178) dJ7_fill_53178_13 (ob_self hh) (vp_in_nI hlt hn) ?_
      refine x_iinc (M := M_J7_fill_53178) dJ7_fill_53178_14 rfl (by decide) rfl ?_
      refine x_goto (M := M_J7_fill_53178) (tgt := 5) dJ7_fill_53178_17 (by decide) ?_
      refine x_norm (lv' := [some (.ref a), some (.int v), some (.int (nI (i + 1))), some (.int (nI n))]) (congrArg (fun z : Int32 => [some (Value.ref a), some (Value.int v), some (Value.int z), some (Value.int (nI n))]) (nI_1 i)) rfl ?_ rfl rfl (ih (i + 1) (by omega))
      rw [stt_stt, nI_clamp (by omega)]
      congr 5
      funext j
      simp only [upd]
      by_cases q : j = i
      · subst q; simp
      · by_cases q2 : j < i
        · simp [q, q2, Nat.lt_succ_of_lt q2]
        · simp [q, q2, show ¬ j < i + 1 by omega]
  refine en_mk m_J7_fill_53178 rfl hl (Nat.le_of_ble_eq_true rfl) ?_
  refine x_iconst (M := M_J7_fill_53178) dJ7_fill_53178_0 ?_
  refine x_istore_n (M := M_J7_fill_53178) dJ7_fill_53178_1 (by decide) rfl ?_
  refine x_aload_n (M := M_J7_fill_53178) dJ7_fill_53178_2 rfl ?_
  refine x_alen (M := M_J7_fill_53178) dJ7_fill_53178_3 hh (by decide) ?_
  refine x_istore_n (M := M_J7_fill_53178) dJ7_fill_53178_4 (by decide) rfl ?_
  refine x_norm (lv' := [some (.ref a), some (.int v), some (.int (nI 0)), some (.int (nI n))]) rfl rfl ?_ rfl rfl (loop n 0 (by omega))
  rw [show (fun j => if j < 0 then v else f j) = f from funext fun j => by simp, stt_id hh]
