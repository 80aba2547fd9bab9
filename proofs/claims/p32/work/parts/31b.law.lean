def dg0 (L : Nat) (xs : Nat → Int32) : Int32 := if 0 < L then xs 0 else 0
theorem c_L_cell {l : Launch} {E : EE} (hl : l.stackTraces = false) {L : Nat} {xs : Nat → Int32} (hx : E.2.2.2.2 0 = some (L, xs)) (hL : L ≤ 3073) {h : HP} {z : Int32} (hz : z = nI 0) : en_C l E M_L_cell 1 0 0 [.ref 0, .int z] h (pR (some (.int (dg0 L xs))) h) := by
  subst hz
  refine en_mk m_L_cell rfl hl (Nat.le_of_ble_eq_true rfl) ?_
  refine x_iload_n (M := M_L_cell) dL_cell_0 rfl ?_
  refine x_aload_n (M := M_L_cell) dL_cell_1 rfl ?_
  refine x_slen (M := M_L_cell) dL_cell_2 (by decide) hx ?_
  by_cases q : 0 < L
  · refine x_icmp_ge (M := M_L_cell) (tgt := 12) dL_cell_3 (by decide) (fun q2 => absurd q2 (nI_ge q (by omega))) (fun _ => ?_)
    refine x_aload_n (M := M_L_cell) dL_cell_6 rfl ?_
    refine x_iload_n (M := M_L_cell) dL_cell_7 rfl ?_
    refine x_sald (M := M_L_cell) dL_cell_8 (by decide) hx (vp_in_nI q (by omega)) ?_
    refine x_goto (M := M_L_cell) (tgt := 13) dL_cell_9 (by decide) ?_
    refine x_iret (M := M_L_cell) dL_cell_13 rfl ⟨?_, rfl⟩ (Nat.le_refl _) (Nat.le_refl _)
    rw [nI_clamp (by omega)]
    unfold dg0
    rw [if_pos q]
  · have hL0 : L = 0 := by omega
    refine x_icmp_ge (M := M_L_cell) (tgt := 12) dL_cell_3 (by decide) (fun _ => ?_) (fun q2 => absurd (by rw [hL0]; exact nI_le (Nat.le_refl 0) (by omega)) q2)
    refine x_iconst (M := M_L_cell) dL_cell_12 ?_
    refine x_iret (M := M_L_cell) dL_cell_13 rfl ⟨?_, rfl⟩ (Nat.le_refl _) (Nat.le_refl _)
    unfold dg0
    rw [if_neg q]
    rfl
def TH (dg : Int32) : HP := topH [some (.inr (14, en_df tyX11 19))] 32 dg
theorem TH_len (dg : Int32) : (TH dg).length = 245 := by
  unfold TH topH
  rw [List.length_append, stt_len, List.length_append, sh0_len9]
  rfl
def MH (dg : Int32) : HP := modH (TH dg ++ [some (.inr (15, mD))]) 277 dg
theorem MH_len (dg : Int32) : (MH dg).length = 327 := by
  unfold MH modH
  rw [List.length_append, stt_len, List.length_append, TH_len, List.length_set]
  rfl
/-- the heap at the head of the law's loop, for the first time -/
def HH (dg : Int32) : HP := MH dg ++ [some (.inl (1, 1, .inr (.inl (fun _ => 0))))]
set_option maxRecDepth 10000 in
theorem mD_df : en_df tyX12 135 = mD := rfl
set_option maxRecDepth 10000 in
theorem law_pre {l : Launch} {E : EE} (hl : l.stackTraces = false) (nm : String) {L : Nat} {xs : Nat → Int32} (hx : E.2.2.2.2 0 = some (L, xs)) (hL : L ≤ 3073) {post : Outc → HP → Prop}
    (k : XX l E (M_law nm) 1312 601024 7293000 post 33 [some (.ref 0), some (.ref 32), some (.ref 277), some (.ref 359), some (.int (nI 1)), none, none, none] [] (HH (dg0 L xs)) 328 2463747) : XX l E (M_law nm) 1312 601024 7293000 post 0 (en_pad 8 [some (.ref 0)]) [] [] 0 0 := by
  refine x_newD (M := M_law nm) (ci := 14) (C := RX11) (T := TX11) (N := 19) (ty := tyX11) cl14 dL_law_0 t_35 (by decide +kernel) (by decide +kernel) ?_
  refine x_dup (M := M_law nm) dL_law_3 rfl ?_
  refine x_aload_n (M := M_law nm) dL_law_4 rfl ?_
  refine x_iconst (M := M_law nm) dL_law_5 ?_
  refine x_callSR (M := M_law nm) (M' := M_L_cell) rfl rfl dL_law_6 m_L_cell t_631 t_632 (c_L_cell hl hx hL (by decide)) rfl rfl (Nat.le_of_ble_eq_true rfl) (Nat.le_of_ble_eq_true rfl) (Nat.le_of_ble_eq_true rfl) (Nat.le_of_ble_eq_true rfl) ?_
  refine x_callIR (M := M_law nm) (M' := M_X11_init) rfl rfl dL_law_9 m_X11_init t_37 rfl rfl t_38 (c_X11_init hl rfl) rfl rfl (Nat.le_of_ble_eq_true rfl) (Nat.le_of_ble_eq_true rfl) (by decide +kernel) (by decide +kernel) ?_
  refine x_norm (h' := TH (dg0 L xs)) (st' := [.ref 32]) rfl rfl rfl rfl rfl ?_
  refine x_astore_n (M := M_law nm) dL_law_12 (Nat.le_of_ble_eq_true rfl) rfl ?_
  refine x_newD (M := M_law nm) (ci := 15) (C := RX12) (T := TX12) (N := 135) (ty := tyX12) cl15 dL_law_13 t_2379 (by decide +kernel) (by decide +kernel) ?_
  refine x_norm (h' := TH (dg0 L xs) ++ [some (.inr (15, mD))]) (st' := [.ref 277]) rfl (by rw [TH_len]) (by rw [mD_df]) rfl rfl ?_
  refine x_dup (M := M_law nm) dL_law_16 rfl ?_
  refine x_aload_n (M := M_law nm) dL_law_17 rfl ?_
  refine x_iconst (M := M_law nm) dL_law_18 ?_
  refine x_callSR (M := M_law nm) (M' := M_L_cell) rfl rfl dL_law_19 m_L_cell t_631 t_632 (c_L_cell hl hx hL (by decide)) rfl rfl (Nat.le_of_ble_eq_true rfl) (Nat.le_of_ble_eq_true rfl) (by decide +kernel) (by decide +kernel) ?_
  refine x_callIR (M := M_law nm) (M' := M_X12_init) rfl rfl dL_law_22 m_X12_init t_2381 rfl rfl t_2382 (c_X12_init (a := 277) hl (by have := @ob_new (TH (dg0 L xs)) (.inr (15, mD)); rw [TH_len] at this; exact this)) rfl rfl (Nat.le_of_ble_eq_true rfl) (Nat.le_of_ble_eq_true rfl) (by decide +kernel) (by decide +kernel) ?_
  refine x_norm (h' := MH (dg0 L xs)) (st' := [.ref 277]) rfl rfl rfl rfl rfl ?_
  refine x_astore_n (M := M_law nm) dL_law_25 (Nat.le_of_ble_eq_true rfl) rfl ?_
  refine x_iconst (M := M_law nm) dL_law_26 ?_
  refine x_newJ (M := M_law nm) (n := 1) dL_law_27 t_193 (by decide +kernel) (by decide +kernel) (by decide +kernel) (by decide +kernel) (by decide +kernel) ?_
  refine x_norm (h' := HH (dg0 L xs)) (st' := [.ref 359]) rfl (by rw [MH_len]) rfl rfl rfl ?_
  refine x_astore_n (M := M_law nm) dL_law_29 (Nat.le_of_ble_eq_true rfl) rfl ?_
  refine x_iconst (M := M_law nm) dL_law_30 ?_
  refine x_istore (M := M_law nm) dL_law_31 (Nat.le_of_ble_eq_true rfl) rfl ?_
  exact x_norm rfl rfl rfl rfl rfl k
