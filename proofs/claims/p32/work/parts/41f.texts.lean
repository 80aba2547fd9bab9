section SRV
abbrev M_J0_length_8abf5 : MRec := (yJ0_length_8abf5, cJ0_length_8abf5, 1, (some Jvm.ClassFile.FieldType.int), [])
theorem m_J0_length_8abf5 : en_M M_J0_length_8abf5 0 := ⟨t_826, t_23, ⟨by decide +kernel, by decide +kernel⟩, by decide +kernel, by decide +kernel, by decide +kernel⟩
abbrev M_J0_charAt_5068e : MRec := (yJ0_charAt_5068e, cJ0_charAt_5068e, 2, (some Jvm.ClassFile.FieldType.char), [])
theorem m_J0_charAt_5068e : en_M M_J0_charAt_5068e 1 := ⟨t_836, t_23, ⟨by decide +kernel, by decide +kernel⟩, by decide +kernel, by decide +kernel, by decide +kernel⟩
abbrev M_J0_isLatin1_aae02 : MRec := (yJ0_isLatin1_aae02, cJ0_isLatin1_aae02, 1, (some Jvm.ClassFile.FieldType.boolean), [])
theorem m_J0_isLatin1_aae02 : en_M M_J0_isLatin1_aae02 0 := ⟨t_840, t_23, ⟨by decide +kernel, by decide +kernel⟩, by decide +kernel, by decide +kernel, by decide +kernel⟩
abbrev M_J0_coder_7d493 : MRec := (yJ0_coder_7d493, cJ0_coder_7d493, 1, (some Jvm.ClassFile.FieldType.byte), [])
theorem m_J0_coder_7d493 : en_M M_J0_coder_7d493 0 := ⟨t_830, t_23, ⟨by decide +kernel, by decide +kernel⟩, by decide +kernel, by decide +kernel, by decide +kernel⟩
abbrev M_J1_charAt_3b067 : MRec := (yJ1_charAt_3b067, cJ1_charAt_3b067, 2, (some Jvm.ClassFile.FieldType.char), [])
theorem m_J1_charAt_3b067 : en_M M_J1_charAt_3b067 2 := ⟨t_843, t_24, ⟨by decide +kernel, by decide +kernel⟩, by decide +kernel, by decide +kernel, by decide +kernel⟩
abbrev M_J0_checkIndex_df160 : MRec := (yJ0_checkIndex_df160, cJ0_checkIndex_df160, 2, none, [])
theorem m_J0_checkIndex_df160 : en_M M_J0_checkIndex_df160 2 := ⟨t_846, t_23, ⟨by decide +kernel, by decide +kernel⟩, by decide +kernel, by decide +kernel, by decide +kernel⟩
abbrev M_J3_checkIndex_8e157 : MRec := (yJ3_checkIndex_8e157, cJ3_checkIndex_8e157, 3, (some Jvm.ClassFile.FieldType.int), [])
theorem m_J3_checkIndex_8e157 : en_M M_J3_checkIndex_8e157 3 := ⟨t_851, t_25, ⟨by decide +kernel, by decide +kernel⟩, by decide +kernel, by decide +kernel, by decide +kernel⟩
theorem x_cret {l : Launch} {E : EE} {M : MRec} {d mc ms : Nat} {post : Outc → HP → Prop} {pc : Nat} {lv : LVs} {h : HP} {cu su : Nat} {v : Int32} {ty : FieldType} (hf : decode M.2.1 pc = .ok (.ireturn, 1)) (hr : M.2.2.2.1 = some ty) (hv : narrow ty (.int v) = .int v) (hp : post (.inl (some (.int v))) h) (hc : cu ≤ mc) (hs : su ≤ ms) : XX l E M d mc ms post pc lv [.int v] h cu su := by
  intro p e s m args below meth c H locs ls K hR hS hL
  refine W.widen hc hs (vx_ret ?_)
  exact W.zret K.1 K.2.1 (K.2.2.2.2.2.2.2.1.trans hr) hv (fun t ht _ => ⟨some (.int v), h, rfl, hp, by rw [ht]; exact hR, hS.F ht⟩) hS.2.2 hf K.2.2.2.2.2.2.1
variable {l : Launch} {E : EE}
theorem c_J0_coder (hl : l.stackTraces = false) {h : HP} {i : Nat} (hi : i < 10) : en_C l E M_J0_coder_7d493 1 0 0 [.ref (1 + i)] h (pR (some (.int 0)) h) := by
  refine en_mk m_J0_coder_7d493 rfl hl (Nat.le_of_ble_eq_true rfl) ?_
  refine x_getsC (M := M_J0_coder_7d493) dJ0_coder_7d493_0 t_831 ?_
  refine x_if_eq (M := M_J0_coder_7d493) (tgt := 13) dJ0_coder_7d493_3 (by decide) (fun q => absurd q (by decide)) (fun _ => ?_)
  refine x_aload_n (M := M_J0_coder_7d493) dJ0_coder_7d493_6 rfl ?_
  refine x_strc (M := M_J0_coder_7d493) dJ0_coder_7d493_7 t_1741 hi ?_
  refine x_goto (M := M_J0_coder_7d493) (tgt := 14) dJ0_coder_7d493_10 (by decide) ?_
  exact x_cret (M := M_J0_coder_7d493) dJ0_coder_7d493_14 rfl (by decide +kernel) ⟨rfl, rfl⟩ (Nat.le_refl _) (Nat.le_refl _)
theorem c_J0_isLatin1 (hl : l.stackTraces = false) {h : HP} {i : Nat} (hi : i < 10) : en_C l E M_J0_isLatin1_aae02 1 0 0 [.ref (1 + i)] h (pR (some (.int 1)) h) := by
  refine en_mk m_J0_isLatin1_aae02 rfl hl (Nat.le_of_ble_eq_true rfl) ?_
  refine x_getsC (M := M_J0_isLatin1_aae02) dJ0_isLatin1_aae02_0 t_831 ?_
  refine x_if_eq (M := M_J0_isLatin1_aae02) (tgt := 17) dJ0_isLatin1_aae02_3 (by decide) (fun q => absurd q (by decide)) (fun _ => ?_)
  refine x_aload_n (M := M_J0_isLatin1_aae02) dJ0_isLatin1_aae02_6 rfl ?_
  refine x_strc (M := M_J0_isLatin1_aae02) dJ0_isLatin1_aae02_7 t_1741 hi ?_
  refine x_if_ne (M := M_J0_isLatin1_aae02) (tgt := 17) dJ0_isLatin1_aae02_10 (by decide) (fun q => absurd rfl q) (fun _ => ?_)
  refine x_iconst (M := M_J0_isLatin1_aae02) dJ0_isLatin1_aae02_13 ?_
  refine x_goto (M := M_J0_isLatin1_aae02) (tgt := 18) dJ0_isLatin1_aae02_14 (by decide) ?_
  exact x_zret (M := M_J0_isLatin1_aae02) dJ0_isLatin1_aae02_18 rfl (by decide) ⟨rfl, rfl⟩ (Nat.le_refl _) (Nat.le_refl _)
theorem c_J0_length (hl : l.stackTraces = false) {h : HP} {i : Nat} (hi : i < 10) : en_C l E M_J0_length_8abf5 2 0 0 [.ref (1 + i)] h (pR (some (.int (Int32.ofNat (en_lenS.getD i 0)))) h) := by
  refine en_mk m_J0_length_8abf5 rfl hl (Nat.le_of_ble_eq_true rfl) ?_
  refine x_aload_n (M := M_J0_length_8abf5) dJ0_length_8abf5_0 rfl ?_
  refine x_strv (M := M_J0_length_8abf5) dJ0_length_8abf5_1 t_1740 hi ?_
  refine x_slenB (M := M_J0_length_8abf5) dJ0_length_8abf5_4 hi ?_
  refine x_aload_n (M := M_J0_length_8abf5) dJ0_length_8abf5_5 rfl ?_
  refine x_callVS (M := M_J0_length_8abf5) (M' := M_J0_coder_7d493) rfl rfl dJ0_length_8abf5_6 m_J0_coder_7d493 t_827 t_828 t_829 hi [] rfl rfl (Nat.le_of_ble_eq_true rfl) (c_J0_coder hl hi) (Nat.le_of_ble_eq_true rfl) (Nat.le_of_ble_eq_true rfl) (Nat.le_of_ble_eq_true rfl) (fun N h' hp => nomatch hp.1) (fun v h' hp => ?_)
  obtain ⟨e1, rfl⟩ := hp
  cases e1
  refine x_ishr (M := M_J0_length_8abf5) dJ0_length_8abf5_9 ?_
  refine x_iret (M := M_J0_length_8abf5) dJ0_length_8abf5_10 rfl ⟨?_, rfl⟩ (Nat.le_refl _) (Nat.le_refl _)
  have h9 := all1 (P := fun i => decide (Int32.ofNat (en_lenS.getD i 0) >>> ((0 : Int32) &&& 31) = Int32.ofNat (en_lenS.getD i 0))) (by decide +kernel) i hi
  rw [of_decide_eq_true h9]
theorem c_J3_checkIndex (hl : l.stackTraces = false) {h : HP} {x n : Int32} {v : Value} (hv : v.category = 1) (h0 : ¬ x < 0) (h1 : x < n) : en_C l E M_J3_checkIndex_8e157 1 0 0 [.int x, .int n, v] h (pR (some (.int x)) h) := by
  have e0 : (en_args [.int x, .int n, v]).length = 3 := by (unfold en_args; simp [hv, en_args] <;> rfl)
  refine en_mk m_J3_checkIndex_8e157 rfl hl (Nat.le_of_eq e0) ?_
  have e : en_pad M_J3_checkIndex_8e157.2.2.1 (en_args [.int x, .int n, v]) = [some (.int x), some (.int n), some v] := by unfold en_args; simp [hv, en_args, en_pad]; rfl
  rw [e]
  refine x_iload_n (M := M_J3_checkIndex_8e157) dJ3_checkIndex_8e157_0 rfl ?_
  refine x_if_lt (M := M_J3_checkIndex_8e157) (tgt := 9) dJ3_checkIndex_8e157_1 (by decide) (fun q => absurd q h0) (fun _ => ?_)
  refine x_iload_n (M := M_J3_checkIndex_8e157) dJ3_checkIndex_8e157_4 rfl ?_
  refine x_iload_n (M := M_J3_checkIndex_8e157) dJ3_checkIndex_8e157_5 rfl ?_
  refine x_icmp_lt (M := M_J3_checkIndex_8e157) (tgt := 16) dJ3_checkIndex_8e157_6 (by decide) (fun _ => ?_) (fun q => absurd h1 q)
  refine x_iload_n (M := M_J3_checkIndex_8e157) dJ3_checkIndex_8e157_16 rfl ?_
  exact x_iret (M := M_J3_checkIndex_8e157) dJ3_checkIndex_8e157_17 rfl ⟨rfl, rfl⟩ (Nat.le_refl _) (Nat.le_refl _)
theorem c_J0_checkIndex (hl : l.stackTraces = false) {h : HP} {x n : Int32} (h0 : ¬ x < 0) (h1 : x < n) : en_C l E M_J0_checkIndex_df160 2 0 0 [.int x, .int n] h (pR none h) := by
  refine en_mk m_J0_checkIndex_df160 rfl hl (Nat.le_of_ble_eq_true rfl) ?_
  refine x_iload_n (M := M_J0_checkIndex_df160) dJ0_checkIndex_df160_0 rfl ?_
  refine x_iload_n (M := M_J0_checkIndex_df160) dJ0_checkIndex_df160_1 rfl ?_
  refine x_getsF (M := M_J0_checkIndex_df160) dJ0_checkIndex_df160_2 t_847 (fun v hv => ?_)
  refine x_callSR (M := M_J0_checkIndex_df160) (M' := M_J3_checkIndex_8e157) (as := [.int x, .int n, v]) rfl rfl dJ0_checkIndex_df160_5 m_J3_checkIndex_8e157 t_849 t_850 (c_J3_checkIndex hl (by rcases hv with rfl | rfl <;> rfl) h0 h1) rfl rfl (Nat.le_of_ble_eq_true rfl) (Nat.le_of_ble_eq_true rfl) (Nat.le_of_ble_eq_true rfl) (Nat.le_of_ble_eq_true rfl) ?_
  refine x_pop (M := M_J0_checkIndex_df160) dJ0_checkIndex_df160_8 rfl ?_
  exact x_vret (M := M_J0_checkIndex_df160) dJ0_checkIndex_df160_9 rfl ⟨rfl, rfl⟩ (Nat.le_refl _) (Nat.le_refl _)
/-- the bytes of the texts are characters -/
def sBy : List (List Int) := [[80, 79, 73, 78, 84], [76, 73, 78, 69, 83, 84, 82, 73, 78, 71], [80, 79, 76, 89, 71, 79, 78], [77, 85, 76, 84, 73, 80, 79, 73, 78, 84], [77, 85, 76, 84, 73, 76, 73, 78, 69, 83, 84, 82, 73, 78, 71], [77, 85, 76, 84, 73, 80, 79, 76, 89, 71, 79, 78], [71, 69, 79, 77, 69, 84, 82, 89, 67, 79, 76, 76, 69, 67, 84, 73, 79, 78], [69, 77, 80, 84, 89], [44, 32], [80, 79, 73, 78, 84, 32, 76, 73, 78, 69, 83, 84, 82, 73, 78, 71, 32, 80, 79, 76, 89, 71, 79, 78, 32, 77, 85, 76, 84, 73, 80, 79, 73, 78, 84, 32, 77, 85, 76, 84, 73, 76, 73, 78, 69, 83, 84, 82, 73, 78, 71, 32, 77, 85, 76, 84, 73, 80, 79, 76, 89, 71, 79, 78, 32, 71, 69, 79, 77, 69, 84, 82, 89, 67, 79, 76, 76, 69, 67, 84, 73, 79, 78, 32, 69, 77, 80, 84, 89, 32]]
def sLen (w : Nat) : Int := ((en_lenS.getD (w - 1) 0 : Nat) : Int)
def sChr (w : Nat) (j : Int) : Int := (sBy.getD (w - 1) []).getD j.toNat 0
theorem sby_ok : (List.range 10).all (fun i => (List.range (en_lenS.getD i 0)).all (fun j => decide (((((en_bytS.getD i []).getD j 0) &&& (Int16.ofInt 255).toInt32).toUInt32 % 65536).toInt32 = Int32.ofInt ((sBy.getD i []).getD j 0)))) = true := by decide +kernel
theorem c_J1_charAt (hl : l.stackTraces = false) {h : HP} {i : Nat} (hi : i < 10) {x : Int32} (h0 : ¬ x < 0) (h1 : x < Int32.ofNat (en_lenS.getD i 0)) (h2 : x.toNatClampNeg < en_lenS.getD i 0) : en_C l E M_J1_charAt_3b067 3 0 0 [.ref (17 + i), .int x] h (pR (some (.int (Int32.ofInt ((sBy.getD i []).getD x.toNatClampNeg 0)))) h) := by
  refine en_mk m_J1_charAt_3b067 rfl hl (Nat.le_of_ble_eq_true rfl) ?_
  refine x_iload_n (M := M_J1_charAt_3b067) dJ1_charAt_3b067_0 rfl ?_
  refine x_aload_n (M := M_J1_charAt_3b067) dJ1_charAt_3b067_1 rfl ?_
  refine x_slenB (M := M_J1_charAt_3b067) dJ1_charAt_3b067_2 hi ?_
  refine x_callSR (M := M_J1_charAt_3b067) (M' := M_J0_checkIndex_df160) (as := [.int x, .int (Int32.ofNat (en_lenS.getD i 0))]) rfl rfl dJ1_charAt_3b067_3 m_J0_checkIndex_df160 t_844 t_845 (c_J0_checkIndex hl h0 h1) rfl rfl (Nat.le_of_ble_eq_true rfl) (Nat.le_of_ble_eq_true rfl) (Nat.le_of_ble_eq_true rfl) (Nat.le_of_ble_eq_true rfl) ?_
  refine x_aload_n (M := M_J1_charAt_3b067) dJ1_charAt_3b067_6 rfl ?_
  refine x_iload_n (M := M_J1_charAt_3b067) dJ1_charAt_3b067_7 rfl ?_
  refine x_sbald (M := M_J1_charAt_3b067) dJ1_charAt_3b067_8 hi (fun q => q.elim h0 (fun q => by omega)) ?_
  refine x_sipush (M := M_J1_charAt_3b067) dJ1_charAt_3b067_9 ?_
  refine x_iand (M := M_J1_charAt_3b067) dJ1_charAt_3b067_12 ?_
  refine x_i2c (M := M_J1_charAt_3b067) dJ1_charAt_3b067_13 ?_
  refine x_cret (M := M_J1_charAt_3b067) dJ1_charAt_3b067_14 rfl ?_ ⟨?_, rfl⟩ (Nat.le_refl _) (Nat.le_refl _)
  · have h9 := all2 (n := 10) (f := fun i => en_lenS.getD i 0) (P := fun i j => decide (narrow .char (.int ((((en_bytS.getD i []).getD j 0) &&& (Int16.ofInt 255).toInt32).toUInt32 % 65536).toInt32) = .int ((((en_bytS.getD i []).getD j 0) &&& (Int16.ofInt 255).toInt32).toUInt32 % 65536).toInt32)) (by decide +kernel) i hi _ h2
    exact of_decide_eq_true h9
  · rw [of_decide_eq_true (all2 sby_ok i hi _ h2)]
theorem c_J0_charAt (hl : l.stackTraces = false) {h : HP} {i : Nat} (hi : i < 10) {x : Int32} (h0 : ¬ x < 0) (h1 : x < Int32.ofNat (en_lenS.getD i 0)) (h2 : x.toNatClampNeg < en_lenS.getD i 0) : en_C l E M_J0_charAt_5068e 4 0 0 [.ref (1 + i), .int x] h (pR (some (.int (Int32.ofInt ((sBy.getD i []).getD x.toNatClampNeg 0)))) h) := by
  refine en_mk m_J0_charAt_5068e rfl hl (Nat.le_of_ble_eq_true rfl) ?_
  refine x_aload_n (M := M_J0_charAt_5068e) dJ0_charAt_5068e_0 rfl ?_
  refine x_callVS (M := M_J0_charAt_5068e) (M' := M_J0_isLatin1_aae02) rfl rfl dJ0_charAt_5068e_1 m_J0_isLatin1_aae02 t_837 t_838 t_839 hi [] rfl rfl (Nat.le_of_ble_eq_true rfl) (c_J0_isLatin1 hl hi) (Nat.le_of_ble_eq_true rfl) (Nat.le_of_ble_eq_true rfl) (Nat.le_of_ble_eq_true rfl) (fun N h' hp => nomatch hp.1) (fun v h' hp => ?_)
  obtain ⟨e1, rfl⟩ := hp
  cases e1
  refine x_if_eq (M := M_J0_charAt_5068e) (tgt := 16) dJ0_charAt_5068e_4 (by decide) (fun q => absurd q (by decide)) (fun _ => ?_)
  refine x_aload_n (M := M_J0_charAt_5068e) dJ0_charAt_5068e_7 rfl ?_
  refine x_strv (M := M_J0_charAt_5068e) dJ0_charAt_5068e_8 t_1740 hi ?_
  refine x_iload_n (M := M_J0_charAt_5068e) dJ0_charAt_5068e_11 rfl ?_
  refine x_callSR (M := M_J0_charAt_5068e) (M' := M_J1_charAt_3b067) (as := [.ref (17 + i), .int x]) rfl rfl dJ0_charAt_5068e_12 m_J1_charAt_3b067 t_841 t_842 (c_J1_charAt hl hi h0 h1 h2) rfl rfl (Nat.le_of_ble_eq_true rfl) (Nat.le_of_ble_eq_true rfl) (Nat.le_of_ble_eq_true rfl) (Nat.le_of_ble_eq_true rfl) ?_
  refine x_cret (M := M_J0_charAt_5068e) dJ0_charAt_5068e_15 rfl ?_ ⟨rfl, rfl⟩ (Nat.le_refl _) (Nat.le_refl _)
  have h9 := all2 (n := 10) (f := fun i => en_lenS.getD i 0) (P := fun i j => decide (narrow .char (.int (Int32.ofInt ((sBy.getD i []).getD j 0))) = .int (Int32.ofInt ((sBy.getD i []).getD j 0)))) (by decide +kernel) i hi _ h2
  exact of_decide_eq_true h9
theorem x_ldcWS {l : Launch} {E : EE} {M : MRec} {d mc ms : Nat} {post : Outc → HP → Prop} {pc : Nat} {lv : LVs} {st : List Value} {h : HP} {cu su index i : Nat} {tx : String} (hf : decode M.2.1 pc = .ok (.ldc_w index, 3)) (hq : (M.1.cls, index, tx, i) ∈ en_refs) (hi : i < 10) (kk : XX l E M d mc ms post (pc + 3) lv (.ref (1 + i) :: st) h cu su) : XX l E M d mc ms post pc lv st h cu su := by
  intro p e s m args below meth c H locs ls K hR hS hL
  have k1 := kk p e s m args below meth c H locs ls K hR hS hL
  rw [List.map_cons, en_old (by omega)] at k1
  intro T hT X
  obtain ⟨t, a1, b1⟩ := k1 T hT X
  have hZ := (en_Xk K).2.1 _ hq
  exact ⟨t, X.ldcStringW K.1 K.2.2.2.1 (text := tx) (a := E.2.2.1 (1 + i)) hZ.1 hZ.2 (g := F0 m pc ls (st.map (en_v E))) rfl (by rw [K.2.1]; exact hf) t a1, b1⟩
end SRV
section SRW
variable {l : Launch} {E : EE} {M M' : MRec} {d mc ms : Nat} {post : Outc → SG → Prop} {pc : Nat} {lv : LVs} {st rest : List Value} {σ τ : SG} {cu su : Nat} {X x : Int} {a n c i index w : Nat}
abbrev isW (w : Nat) : Prop := 1 ≤ w ∧ w ≤ 10
theorem z_ldcS {tx : String} (hf : decode M.2.1 pc = .ok (.ldc index, 2)) (hq : (M.1.cls, index, tx, i) ∈ en_refs) (hi : i < 10) (hw : w = 1 + i) (k : YY l E M d mc ms post (pc + 2) lv (vr w :: st) σ cu su) : YY l E M d mc ms post pc lv st σ cu su := fun h hs => x_ldcS hf hq hi (by subst hw; exact k h hs)
theorem z_ldcWS {tx : String} (hf : decode M.2.1 pc = .ok (.ldc_w index, 3)) (hq : (M.1.cls, index, tx, i) ∈ en_refs) (hi : i < 10) (hw : w = 1 + i) (k : YY l E M d mc ms post (pc + 3) lv (vr w :: st) σ cu su) : YY l E M d mc ms post pc lv st σ cu su := fun h hs => x_ldcWS hf hq hi (by subst hw; exact k h hs)
theorem z_strlen (h0 : M.2.2.2.2 = []) (hf : decode M.2.1 pc = .ok (.invokevirtual index, 3)) (hml : Cond.methodLink M.1.cls index M_J0_length_8abf5.1 ∈ WS) (hw : isW w) (hl : l.stackTraces = false) (hrest : (rest.map fun v => v.category).sum ≤ 8) (hd : 3 ≤ d) (hcu : cu ≤ mc) (hsu : su ≤ ms) (k : YY l E M d mc ms post (pc + 3) lv (vi (sLen w) :: rest) σ cu su) : YY l E M d mc ms post pc lv (vr w :: rest) σ cu su := fun h hs => by
  obtain ⟨i, rfl⟩ : ∃ i, w = 1 + i := ⟨w - 1, by have := hw.1; omega⟩
  have hi : i < 10 := by have := hw.2; omega
  refine x_callVS (M' := M_J0_length_8abf5) h0 rfl hf m_J0_length_8abf5 hml t_824 t_825 hi [] rfl rfl hrest (c_J0_length hl hi) hd hcu hsu (fun N h' hp => nomatch hp.1) (fun v h' hp => ?_)
  obtain ⟨e1, rfl⟩ := hp
  cases e1
  have e : sLen (1 + i) = ((en_lenS.getD i 0 : Nat) : Int) := by unfold sLen; rw [Nat.add_sub_cancel_left]
  exact cs1 (by rw [e]; exact congrArg Value.int Int32.ofInt_eq_ofNat) (k h' hs)
theorem z_strch (h0 : M.2.2.2.2 = []) (hf : decode M.2.1 pc = .ok (.invokevirtual index, 3)) (hml : Cond.methodLink M.1.cls index M_J0_charAt_5068e.1 ∈ WS) (hw : isW w) (hX : w32 X = x) (hb : 0 ≤ x ∧ x < sLen w) (hl : l.stackTraces = false) (hrest : (rest.map fun v => v.category).sum ≤ 8) (hd : 5 ≤ d) (hcu : cu ≤ mc) (hsu : su ≤ ms) (k : YY l E M d mc ms post (pc + 3) lv (vi (sChr w x) :: rest) σ cu su) : YY l E M d mc ms post pc lv (vi X :: vr w :: rest) σ cu su := fun h hs => by
  obtain ⟨i, rfl⟩ : ∃ i, w = 1 + i := ⟨w - 1, by have := hw.1; omega⟩
  have hi : i < 10 := by have := hw.2; omega
  subst hX
  have e : sLen (1 + i) = ((en_lenS.getD i 0 : Nat) : Int) := by unfold sLen; rw [Nat.add_sub_cancel_left]
  rw [e] at hb
  have hsm : en_lenS.getD i 0 < 2 ^ 31 := of_decide_eq_true (all1 (P := fun i => decide (en_lenS.getD i 0 < 2 ^ 31)) (by decide +kernel) i hi)
  refine x_callVS (M' := M_J0_charAt_5068e) h0 rfl hf m_J0_charAt_5068e hml t_834 t_835 hi [.int (Int32.ofInt X)] rfl rfl hrest (c_J0_charAt hl hi (nn32 hb.1) ?_ (by rw [tn32]; omega)) hd hcu hsu (fun N h' hp => nomatch hp.1) (fun v h' hp => ?_)
  · have e3 : (Int32.ofNat (en_lenS.getD i 0)).toInt = ((en_lenS.getD i 0 : Nat) : Int) := by rw [← Int32.ofInt_eq_ofNat]; exact Int32.toInt_ofInt_of_le (by omega) (by omega)
    rw [Int32.lt_iff_toInt_lt, e3]; exact hb.2
  · obtain ⟨e1, rfl⟩ := hp
    cases e1
    have e2 : sChr (1 + i) (w32 X) = (sBy.getD i []).getD (Int32.ofInt X).toNatClampNeg 0 := by unfold sChr; rw [Nat.add_sub_cancel_left, tn32]
    rw [e2] at k
    exact k h' hs
def uNit (i : Int) : Int := if i = 0 then 1 else if i = 1 then 10 else if i = 2 then 100 else 1000
theorem z_getsU {host : String} (hf : decode M.2.1 pc = .ok (.getstatic index, 3)) (hl : Cond.fieldLinkNest M.1.cls index RX11 "UNITS" "[I" host ∈ NW) (k : YY l E M d mc ms post (pc + 3) lv (vr 11 :: st) σ cu su) : YY l E M d mc ms post pc lv st σ cu su := fun h hs => x_getsU hf hl (k h hs)
theorem z_getsN (hf : decode M.2.1 pc = .ok (.getstatic index, 3)) (hl : Cond.fieldLink M.1.cls index RX3 "NEITHER" "[I" ∈ WS) (k : YY l E M d mc ms post (pc + 3) lv (vr 12 :: st) σ cu su) : YY l E M d mc ms post pc lv st σ cu su := fun h hs => x_getsN hf hl (k h hs)
theorem z_tald (hf : decode M.2.1 pc = .ok (.iaload, 1)) (hX : w32 X = x) (hb : 0 ≤ x ∧ x < 4) (k : YY l E M d mc ms post (pc + 1) lv (vi (uNit x) :: st) σ cu su) : YY l E M d mc ms post pc lv (vi X :: vr 11 :: st) σ cu su := fun h hs => x_tald1 hf (vin_ok hX (n := 4) rfl hb).1 (cs1 (by
  rw [(vin_ok hX (n := 4) rfl hb).2]
  have := hb.1; have := hb.2
  rcases (show x = 0 ∨ x = 1 ∨ x = 2 ∨ x = 3 by omega) with rfl | rfl | rfl | rfl <;> rfl) (k h hs))
/-- System.arraycopy out of the row NEITHER -/
theorem x_acopyN {h : HP} {post : Outc → HP → Prop} {n1 : Nat} {g : Nat → Int32} (hf : decode M.2.1 pc = .ok (.invokestatic index, 3)) (hl : Cond.methodLink M.1.cls index arraycopyName ∈ WS) (hnat : Cond.native arraycopyName ∈ WS) (hs9 : Cond.static arraycopyName ∈ WS) (hi : Cond.initialized "java/lang/System" ∈ WS)
    (h9 : ob h a = some (.inl (0, n1, .inl g))) (h5 : 9 ≤ n1) (hd : 1 ≤ d) (hst : (rest.map fun v => v.category).sum + (nativeFrameWords "java/lang/System" "arraycopy" 5 + 11) ≤ 64 * d)
    (kk : XX l E M d mc ms post (pc + 3) lv rest (stt h a (.inl (0, n1, .inl (va_cpy en_neith g 0 0 9)))) cu su) : XX l E M d mc ms post pc lv (.int 9 :: .int 0 :: .ref a :: .int 0 :: .ref 12 :: rest) h cu su := by
  intro p e s m args below meth c H locs ls K hR hS hL
  obtain ⟨q1, p1, -⟩ := en_find hR h9
  obtain ⟨scr, hs1, hs2, hs3, hs4, -, hs5, hs7⟩ := (en_Xk K).2.2.2.2.2.2.1
  intro T hT X
  have hc0 : H[E.2.2.1 12]? = some scr := by rw [hS.2.1 _ (Array.getElem?_eq_some_iff.mp hs1).1 hs7]; exact hs1
  have hc1 : H[en_a E a]? = some (vp_cell (E.2.1 0) (n1, .inl g)) := hR.2 q1 _ p1
  obtain ⟨hs6, k0, hk0, cm0, hkk0⟩ := hs2
  obtain ⟨-, k1, hk1, cm1, hkk1⟩ := (en_tk K.2.2.2.2.2.1 0 rfl).1 n1 (fun j => .int (g j))
  obtain ⟨vm', X', step⟩ := X.arraycopy K.1 K.2.2.2.1 (K.2.2.2.2.1 _ hl) (K.2.2.2.2.1 _ hnat) (K.2.2.2.2.1 _ hs9) (K.2.2.2.2.1 _ hi) (src := E.2.2.1 12) (dst := en_a E a) (cs := scr) (cd := vp_cell (E.2.1 0) (n1, .inl g)) (srcPos := 0) (destPos := 0) (n := 9) (by rw [hT]; exact hc0) (by rw [hT]; exact hc1)
    hs6 (fun _ h => by cases h) hs3 (fun h => by cases h) hk0 hk1 hkk0 hkk1 (by simp [refKind]) (by decide) (by decide) (by decide)
    (by show ¬ ((0 : Int) + 9 > (scr.slots.size : Int)); omega)
    (by show ¬ ((0 : Int) + 9 > ((arrV (E.2.1 0) n1 (fun j => .int (g j))).slots.size : Int)); rw [arrV_size]; omega)
    (fun vm₁ _ i hi => by
      have hi9 : i < 9 := hi
      have e : scr.slots.getD ((0 : Int32).toNatClampNeg + i) .null = .int (en_neith i) := by
        rw [Array.getD_eq_getD_getElem?, show (0 : Int32).toNatClampNeg + i = i from Nat.zero_add i, hs5 _ (by omega)]
        rfl
      refine ⟨?_, ?_⟩
      · rw [e]; rfl
      · rw [e]; exact trivial)
    (g := F0 m pc ls (.int 9 :: .int 0 :: .ref (en_a E a) :: .int 0 :: .ref (E.2.2.1 12) :: rest.map (en_v E))) rfl (by rw [K.2.2.1, hL.1]) (rest := rest.map (en_v E)) rfl (by rw [K.2.1]; exact hf) hd (by show 2 * 0 + _ + _ ≤ 64 * d; rw [en_cats]; omega)
  have e1 : copied scr (vp_cell (E.2.1 0) (n1, .inl g)) 0 0 9 = vp_cell (E.2.1 0) (n1, .inl (va_cpy en_neith g 0 0 9)) := va_copiedX (fun z => .int z) scr (E.2.1 0) en_neith g hs5 (by decide)
  rw [e1] at X' step
  have hl9 : en_a E a < H.size := (Array.getElem?_eq_some_iff.mp hc1).1
  have hheap : ((T.setVm vm').setCell (en_a E a) (vp_cell (E.2.1 0) (n1, .inl (va_cpy en_neith g 0 0 9)))).heap = H.setIfInBounds (en_a E a) (vp_cell (E.2.1 0) (n1, .inl (va_cpy en_neith g 0 0 9))) := by rw [← hT]; rfl
  have oq : ∀ q : Nat, q ≠ en_a E a → (H.setIfInBounds (en_a E a) (vp_cell (E.2.1 0) (n1, .inl (va_cpy en_neith g 0 0 9))))[q]? = H[q]? := fun q hq => by simp [Array.getElem?_setIfInBounds, Ne.symm hq]
  obtain ⟨t9, a1, b1⟩ := kk p e s m args below meth c _ _ ls K (en_put hR h9 (by simp) (show (H.setIfInBounds (en_a E a) _)[en_a E a]? = some _ by simp [Array.getElem?_setIfInBounds, hl9]; rfl) oq) ⟨by simp; exact hS.1, fun q g1 g2 => by
      rw [oq q (fun e => g2 (by rw [e]; exact en_Aa h9))]
      exact hS.2.1 q g1 g2, fun q hq => by
      rcases List.mem_append.mp hq with h | h
      · exact hS.2.2 q h
      · obtain ⟨z, -, hz⟩ := List.mem_map.mp h
        rw [← hz]
        exact en_Aa h9⟩ hL _ hheap X'
  refine ⟨t9, ?_, b1⟩
  rw [List.map_cons, List.map_cons, List.map_cons, List.map_cons, List.map_cons, en_old (a := 12) (by omega)]
  exact step t9 a1
def nEi (σ : SG) (c : Nat) : SG := fun c' i => if c' = c ∧ 0 ≤ i ∧ i < 9 then (if i = 8 then 2 else -1) else σ c' i
theorem z_acopyN {c : Nat} (hf : decode M.2.1 pc = .ok (.invokestatic index, 3)) (hl : Cond.methodLink M.1.cls index arraycopyName ∈ WS) (hnat : Cond.native arraycopyName ∈ WS) (hs9 : Cond.static arraycopyName ∈ WS) (hi : Cond.initialized "java/lang/System" ∈ WS)
    (hL : lay a = some (.inr (0, 9, 0, 0))) (hc : a * 256 = c) (hτ : τ = nEi σ c) (hd : 1 ≤ d) (hst : (rest.map fun v => v.category).sum + (nativeFrameWords "java/lang/System" "arraycopy" 5 + 11) ≤ 64 * d) (k : YY l E M d mc ms post (pc + 3) lv rest τ cu su) : YY l E M d mc ms post pc lv (vi 9 :: vi 0 :: vr a :: vi 0 :: vr 12 :: rest) σ cu su := fun h hh => by
  subst hc; subst hτ
  refine x_acopyN hf hl hnat hs9 hi (hh a _ hL) (Nat.le_refl 9) hd hst (k _ (HS_set hh hL (fun j hj => by funext i'; unfold nEi; rw [if_neg (fun w => hj (by have := w.1; omega))]) ?_))
  refine congrArg (fun f => (Sum.inl (0, 9, .inl f) : PEnt)) ?_
  funext j
  show va_cpy en_neith (ar_i σ (a * 256)) 0 0 9 j = ar_i (nEi σ (a * 256)) (a * 256) j
  unfold va_cpy ar_i nEi
  by_cases q : j < 9
  · rw [if_pos (by omega), if_pos ⟨rfl, by omega, by omega⟩]
    rcases (show j = 0 ∨ j = 1 ∨ j = 2 ∨ j = 3 ∨ j = 4 ∨ j = 5 ∨ j = 6 ∨ j = 7 ∨ j = 8 by omega) with rfl | rfl | rfl | rfl | rfl | rfl | rfl | rfl | rfl <;> rfl
  · rw [if_neg (by omega), if_neg (by omega)]
end SRW
