section LLP
theorem XX_post {l : Launch} {E : EE} {M : MRec} {d mc ms : Nat} {P Q : Outc → HP → Prop} {pc : Nat} {lv : LVs} {st : List Value} {h : HP} {cu su : Nat} (hq : ∀ o h', P o h' → Q o h') (k : XX l E M d mc ms P pc lv st h cu su) : XX l E M d mc ms Q pc lv st h cu su := by
  intro p e s m args below meth c H locs ls K hR hS hL T hT X
  obtain ⟨t, a, o, b1, b2, b3⟩ := k p e s m args below meth c H locs ls K hR hS hL T hT X
  refine ⟨t, a, o, b1, b2, ?_⟩
  rcases b3 with ⟨⟨v, h', q1, q2, q3⟩, r⟩ | ⟨q, q1, N, ce, L9, ⟨h', q2, q3⟩, r⟩
  · exact Or.inl ⟨⟨v, h', q1, hq _ _ q2, q3⟩, r⟩
  · exact Or.inr ⟨q, q1, N, ce, L9, ⟨h', hq _ _ q2, q3⟩, r⟩
theorem and31 (x : Int) : ∃ k : Nat, k < 32 ∧ w32 (q_ian x 31) = (k : Int) := by
  refine ⟨((Int32.ofInt x).toBitVec &&& 31#32).toNat, ?_, ?_⟩
  · rw [BitVec.toNat_and]
    exact Nat.lt_of_le_of_lt Nat.and_le_right (by decide)
  · have h : ((Int32.ofInt x).toBitVec &&& 31#32).toNat < 32 := by rw [BitVec.toNat_and]; exact Nat.lt_of_le_of_lt Nat.and_le_right (by decide)
    have e : Int32.ofInt x &&& Int32.ofInt 31 = Int32.ofInt (((Int32.ofInt x).toBitVec &&& 31#32).toNat : Int) := by
      apply Int32.toBitVec_inj.mp
      rw [Int32.toBitVec_and]
      show (Int32.ofInt x).toBitVec &&& 31#32 = BitVec.ofInt 32 _
      rw [BitVec.ofInt_natCast, BitVec.ofNat_toNat, BitVec.setWidth_eq]
    unfold w32 q_ian
    rw [Int32.ofInt_toInt, e]
    exact Int32.toInt_ofInt_of_le (by omega) (by omega)
/-- one call's step: operation k at place i of the script -/
noncomputable def fS (k : Nat) (σ : SG) (xs : Nat → Int32) (L : Nat) (i : Int) : Option (Bool × SG) := match k with
  | 0 => fS_0 σ xs L i
  | 1 => fS_1 σ xs L i
  | 2 => fS_2 σ xs L i
  | 3 => fS_3 σ xs L i
  | 4 => fS_4 σ xs L i
  | 5 => fS_5 σ xs L i
  | 6 => fS_6 σ xs L i
  | 7 => fS_7 σ xs L i
  | 8 => fS_8 σ xs L i
  | 9 => fS_9 σ xs L i
  | 10 => fS_10 σ xs L i
  | 11 => fS_11 σ xs L i
  | 12 => fS_12 σ xs L i
  | 13 => fS_13 σ xs L i
  | 14 => fS_14 σ xs L i
  | 15 => fS_15 σ xs L i
  | 16 => fS_16 σ xs L i
  | 17 => fS_17 σ xs L i
  | 18 => fS_18 σ xs L i
  | 19 => fS_19 σ xs L i
  | 20 => fS_20 σ xs L i
  | 21 => fS_21 σ xs L i
  | 22 => fS_22 σ xs L i
  | 23 => fS_23 σ xs L i
  | 24 => fS_24 σ xs L i
  | 25 => fS_25 σ xs L i
  | 26 => fS_26 σ xs L i
  | 27 => fS_27 σ xs L i
  | 28 => fS_28 σ xs L i
  | 29 => fS_29 σ xs L i
  | 30 => fS_30 σ xs L i
  | 31 => fS_31 σ xs L i
  | _ => some (true, σ)
variable {l : Launch} {E : EE}
theorem s_case (hl : l.stackTraces = false) {nm : String} {post : Outc → SG → Prop} {σ σ' : SG} {xs : Nat → Int32} {L k : Nat} (hk : k < 32) (hx : E.2.2.2.2 0 = some (L, xs)) {i_0 x : Int} {cu su : Nat} (hX : w32 x = (k : Int)) (hcu : cu + 16 ≤ 601024) (hsu : su + 96 ≤ 7293000) (H : fS k σ xs L i_0 = some (true, σ')) (J : YY l E (M_law nm) 1312 601024 7293000 post 1606 [some (vr 0), some (vr 32), some (vr 277), some (vr 359), some (vi i_0), none, none, none] [] σ' (cu + 16) (su + 96)) : YY l E (M_law nm) 1312 601024 7293000 post 50 [some (vr 0), some (vr 32), some (vr 277), some (vr 359), some (vi i_0), none, none, none] [vi x] σ cu su := by
  rcases (show k = 0 ∨ k = 1 ∨ k = 2 ∨ k = 3 ∨ k = 4 ∨ k = 5 ∨ k = 6 ∨ k = 7 ∨ k = 8 ∨ k = 9 ∨ k = 10 ∨ k = 11 ∨ k = 12 ∨ k = 13 ∨ k = 14 ∨ k = 15 ∨ k = 16 ∨ k = 17 ∨ k = 18 ∨ k = 19 ∨ k = 20 ∨ k = 21 ∨ k = 22 ∨ k = 23 ∨ k = 24 ∨ k = 25 ∨ k = 26 ∨ k = 27 ∨ k = 28 ∨ k = 29 ∨ k = 30 ∨ k = 31 by omega) with rfl | rfl | rfl | rfl | rfl | rfl | rfl | rfl | rfl | rfl | rfl | rfl | rfl | rfl | rfl | rfl | rfl | rfl | rfl | rfl | rfl | rfl | rfl | rfl | rfl | rfl | rfl | rfl | rfl | rfl | rfl | rfl
  · exact z_tabIn (M := M_law nm) (tgt := 192) (off := 142) dL_law_50 hX (by decide) (by decide) rfl (by decide) (s_case0 hl hx hcu hsu H J)
  · exact z_tabIn (M := M_law nm) (tgt := 268) (off := 218) dL_law_50 hX (by decide) (by decide) rfl (by decide) (s_case1 hl hx hcu hsu H J)
  · exact z_tabIn (M := M_law nm) (tgt := 296) (off := 246) dL_law_50 hX (by decide) (by decide) rfl (by decide) (s_case2 hl hx hcu hsu H J)
  · exact z_tabIn (M := M_law nm) (tgt := 309) (off := 259) dL_law_50 hX (by decide) (by decide) rfl (by decide) (s_case3 hl hx hcu hsu H J)
  · exact z_tabIn (M := M_law nm) (tgt := 337) (off := 287) dL_law_50 hX (by decide) (by decide) rfl (by decide) (s_case4 hl hx hcu hsu H J)
  · exact z_tabIn (M := M_law nm) (tgt := 365) (off := 315) dL_law_50 hX (by decide) (by decide) rfl (by decide) (s_case5 hl hx hcu hsu H J)
  · exact z_tabIn (M := M_law nm) (tgt := 393) (off := 343) dL_law_50 hX (by decide) (by decide) rfl (by decide) (s_case6 hl hx hcu hsu H J)
  · exact z_tabIn (M := M_law nm) (tgt := 421) (off := 371) dL_law_50 hX (by decide) (by decide) rfl (by decide) (s_case7 hl hx hcu hsu H J)
  · exact z_tabIn (M := M_law nm) (tgt := 461) (off := 411) dL_law_50 hX (by decide) (by decide) rfl (by decide) (s_case8 hl hx hcu hsu H J)
  · exact z_tabIn (M := M_law nm) (tgt := 489) (off := 439) dL_law_50 hX (by decide) (by decide) rfl (by decide) (s_case9 hl hx hcu hsu H J)
  · exact z_tabIn (M := M_law nm) (tgt := 529) (off := 479) dL_law_50 hX (by decide) (by decide) rfl (by decide) (s_case10 hl hx hcu hsu H J)
  · exact z_tabIn (M := M_law nm) (tgt := 557) (off := 507) dL_law_50 hX (by decide) (by decide) rfl (by decide) (s_case11 hl hx hcu hsu H J)
  · exact z_tabIn (M := M_law nm) (tgt := 597) (off := 547) dL_law_50 hX (by decide) (by decide) rfl (by decide) (s_case12 hl hx hcu hsu H J)
  · exact z_tabIn (M := M_law nm) (tgt := 625) (off := 575) dL_law_50 hX (by decide) (by decide) rfl (by decide) (s_case13 hl hx hcu hsu H J)
  · exact z_tabIn (M := M_law nm) (tgt := 653) (off := 603) dL_law_50 hX (by decide) (by decide) rfl (by decide) (s_case14 hl hx hcu hsu H J)
  · exact z_tabIn (M := M_law nm) (tgt := 717) (off := 667) dL_law_50 hX (by decide) (by decide) rfl (by decide) (s_case15 hl hx hcu hsu H J)
  · exact z_tabIn (M := M_law nm) (tgt := 757) (off := 707) dL_law_50 hX (by decide) (by decide) rfl (by decide) (s_case16 hl hx hcu hsu H J)
  · exact z_tabIn (M := M_law nm) (tgt := 809) (off := 759) dL_law_50 hX (by decide) (by decide) rfl (by decide) (s_case17 hl hx hcu hsu H J)
  · exact z_tabIn (M := M_law nm) (tgt := 861) (off := 811) dL_law_50 hX (by decide) (by decide) rfl (by decide) (s_case18 hl hx hcu hsu H J)
  · exact z_tabIn (M := M_law nm) (tgt := 901) (off := 851) dL_law_50 hX (by decide) (by decide) rfl (by decide) (s_case19 hl hx hcu hsu H J)
  · exact z_tabIn (M := M_law nm) (tgt := 941) (off := 891) dL_law_50 hX (by decide) (by decide) rfl (by decide) (s_case20 hl hx hcu hsu H J)
  · exact z_tabIn (M := M_law nm) (tgt := 993) (off := 943) dL_law_50 hX (by decide) (by decide) rfl (by decide) (s_case21 hl hx hcu hsu H J)
  · exact z_tabIn (M := M_law nm) (tgt := 1021) (off := 971) dL_law_50 hX (by decide) (by decide) rfl (by decide) (s_case22 hl hx hcu hsu H J)
  · exact z_tabIn (M := M_law nm) (tgt := 1061) (off := 1011) dL_law_50 hX (by decide) (by decide) rfl (by decide) (s_case23 hl hx hcu hsu H J)
  · exact z_tabIn (M := M_law nm) (tgt := 1137) (off := 1087) dL_law_50 hX (by decide) (by decide) rfl (by decide) (s_case24 hl hx hcu hsu H J)
  · exact z_tabIn (M := M_law nm) (tgt := 1189) (off := 1139) dL_law_50 hX (by decide) (by decide) rfl (by decide) (s_case25 hl hx hcu hsu H J)
  · exact z_tabIn (M := M_law nm) (tgt := 1217) (off := 1167) dL_law_50 hX (by decide) (by decide) rfl (by decide) (s_case26 hl hx hcu hsu H J)
  · exact z_tabIn (M := M_law nm) (tgt := 1257) (off := 1207) dL_law_50 hX (by decide) (by decide) rfl (by decide) (s_case27 hl hx hcu hsu H J)
  · exact z_tabIn (M := M_law nm) (tgt := 1309) (off := 1259) dL_law_50 hX (by decide) (by decide) rfl (by decide) (s_case28 hl hx hcu hsu H J)
  · exact z_tabIn (M := M_law nm) (tgt := 1349) (off := 1299) dL_law_50 hX (by decide) (by decide) rfl (by decide) (s_case29 hl hx hcu hsu H J)
  · exact z_tabIn (M := M_law nm) (tgt := 1462) (off := 1412) dL_law_50 hX (by decide) (by decide) rfl (by decide) (s_case30 hl hx hcu hsu H J)
  · exact z_tabIn (M := M_law nm) (tgt := 1542) (off := 1492) dL_law_50 hX (by decide) (by decide) rfl (by decide) (s_case31 hl hx hcu hsu H J)
/-- the law's loop out of an invariant of one step -/
theorem law_loop (hl : l.stackTraces = false) (nm : String) {xs : Nat → Int32} {L : Nat} (hx : E.2.2.2.2 0 = some (L, xs)) (hL : L ≤ 3073) (Inv : Nat → SG → Prop)
    (hstep : ∀ (n k : Nat) (σ : SG) (i : Int), k < 32 → n < 512 → Inv n σ → 1 ≤ i → i + 5 < (L : Int) → ∃ σ', fS k σ xs L i = some (true, σ') ∧ Inv (n + 1) σ') :
    ∀ (m n : Nat) (σ : SG) (cu su : Nat), m + n = 512 → Inv n σ → cu ≤ 328 + 16 * n → su ≤ 2463747 + 96 * n → YY l E (M_law nm) 1312 601024 7293000 (fun o _ => o = .inl (some (.int 1))) 33 [some (vr 0), some (vr 32), some (vr 277), some (vr 359), some (vi (1 + 6 * (n : Int))), none, none, none] [] σ cu su := by
  intro m
  induction m with
  | zero =>
    intro n σ cu su hn hI hc hs
    obtain rfl : n = 512 := by omega
    refine z_iload (M := M_law nm) dL_law_33 rfl ?_
    refine z_aload_n (M := M_law nm) dL_law_35 rfl ?_
    refine z_salen (M := M_law nm) (N := (L : Int)) hx dL_law_36 rfl ?_
    refine z_bipush (M := M_law nm) dL_law_37 (by decide +kernel) ?_
    refine z_isub (M := M_law nm) dL_law_39 ?_
    refine z_icmp_gt_t (M := M_law nm) (tgt := 1612) dL_law_40 (by decide) (w32_of (by omega) (by omega)) (w32_of (by omega) (by omega)) (by omega) ?_
    refine z_zconst (M := M_law nm) (b := true) dL_law_1612 rfl ?_
    exact z_zret (M := M_law nm) dL_law_1613 rfl (by omega) (by omega) rfl
  | succ m ih =>
    intro n σ cu su hn hI hc hs
    refine z_iload (M := M_law nm) dL_law_33 rfl ?_
    refine z_aload_n (M := M_law nm) dL_law_35 rfl ?_
    refine z_salen (M := M_law nm) (N := (L : Int)) hx dL_law_36 rfl ?_
    refine z_bipush (M := M_law nm) dL_law_37 (by decide +kernel) ?_
    refine z_isub (M := M_law nm) dL_law_39 ?_
    by_cases q : 1 + 6 * (n : Int) ≤ (L : Int) - 6
    · refine z_icmp_gt_f (M := M_law nm) (tgt := 1612) dL_law_40 (by decide) (w32_of (by omega) (by omega)) (w32_of (by omega) (by omega)) q ?_
      refine z_aload_n (M := M_law nm) dL_law_43 rfl ?_
      refine z_iload (M := M_law nm) dL_law_44 rfl ?_
      refine z_sald (M := M_law nm) (y := scr xs (1 + 6 * (n : Int))) (N := (L : Int)) hx dL_law_46 (w32_of (by omega) (by omega)) rfl ⟨by omega, by omega⟩ rfl ?_
      refine z_bipush (M := M_law nm) dL_law_47 (by decide +kernel) ?_
      refine z_iand (M := M_law nm) dL_law_49 ?_
      obtain ⟨k, hk, e⟩ := and31 (scr xs (1 + 6 * (n : Int)))
      obtain ⟨σ', h1, h2⟩ := hstep n k σ (1 + 6 * (n : Int)) hk (by omega) hI (by omega) (by omega)
      refine s_case hl hk hx e (by omega) (by omega) h1 ?_
      refine z_iinc (M := M_law nm) (lv' := [some (vr 0), some (vr 32), some (vr 277), some (vr 359), some (vi (1 + 6 * (n : Int) + 6)), none, none, none]) dL_law_1606 rfl (Nat.le_of_ble_eq_true rfl) rfl rfl ?_
      refine z_goto (M := M_law nm) (tgt := 33) dL_law_1609 (by decide) ?_
      have h3 := ih (n + 1) σ' (cu + 16) (su + 96) (by omega) h2 (by omega) (by omega)
      rw [show 1 + 6 * ((n + 1 : Nat) : Int) = 1 + 6 * (n : Int) + 6 by omega] at h3
      exact h3
    · refine z_icmp_gt_t (M := M_law nm) (tgt := 1612) dL_law_40 (by decide) (w32_of (by omega) (by omega)) (w32_of (by omega) (by omega)) (by omega) ?_
      refine z_zconst (M := M_law nm) (b := true) dL_law_1612 rfl ?_
      exact z_zret (M := M_law nm) dL_law_1613 rfl (by omega) (by omega) rfl
theorem law_head (hl : l.stackTraces = false) (nm : String) {xs : Nat → Int32} {L : Nat} (hx : E.2.2.2.2 0 = some (L, xs)) (hL : L ≤ 3073) (dg : Int32) (Inv : Nat → SG → Prop) (h0 : Inv 0 (sg0 dg))
    (hstep : ∀ (n k : Nat) (σ : SG) (i : Int), k < 32 → n < 512 → Inv n σ → 1 ≤ i → i + 5 < (L : Int) → ∃ σ', fS k σ xs L i = some (true, σ') ∧ Inv (n + 1) σ') : XX l E (M_law nm) 1312 601024 7293000 (fun o _ => o = .inl (some (.int 1))) 33 [some (.ref 0), some (.ref 32), some (.ref 277), some (.ref 359), some (.int (nI 1)), none, none, none] [] (HH dg) 328 2463747 :=
  XX_post (fun o h' ⟨_, _, e⟩ => e) (law_loop hl nm hx hL Inv hstep 512 0 (sg0 dg) 328 2463747 rfl h0 (by omega) (by omega) (HH dg) (HS_0 dg))
end LLP
