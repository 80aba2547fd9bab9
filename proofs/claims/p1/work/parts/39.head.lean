section HED
theorem and31 (x : Int32) : ∃ k : Nat, k < 32 ∧ x &&& (Int8.ofInt 31).toInt32 = Int32.ofNat k := by
  refine ⟨(x.toBitVec &&& 31#32).toNat, ?_, ?_⟩
  · rw [BitVec.toNat_and]
    exact Nat.lt_of_le_of_lt Nat.and_le_right (by decide)
  · apply Int32.toBitVec_inj.mp
    rw [Int32.toBitVec_and, (by decide +kernel : (Int8.ofInt 31).toInt32.toBitVec = 31#32)]
    show _ = BitVec.ofNat 32 (x.toBitVec &&& 31#32).toNat
    rw [BitVec.ofNat_toNat, BitVec.setWidth_eq]
theorem law_head {l : Launch} {E : EE} (hl : l.stackTraces = false) (nm : String) {L : Nat} {xs : Nat → Int32} (hx : E.2.2.2.2 0 = some (L, xs)) (hL : L ≤ 7) (dg : Int32) : XX l E (M_law nm) 1312 342628 8074320 (fun o _ => o = .inl (some (.int 1))) 33 [some (.ref 0), some (.ref 32), some (.ref 277), some (.ref 359), some (.int (nI 1)), none, none, none] [] (HH dg) 328 2463747 := by
  refine x_lvs (M := M_law nm) (lv' := [some (.ref 0), some (.ref 32), some (.ref 277), some (.ref 359), some (.int (Int32.ofInt 1)), none, none, none]) (by rw [(by decide +kernel : nI 1 = Int32.ofInt 1)]) ?_
  refine x_iload (M := M_law nm) dL_law_33 rfl ?_
  refine x_aload_n (M := M_law nm) dL_law_35 rfl ?_
  refine x_slen (M := M_law nm) dL_law_36 (by decide) hx ?_
  refine x_bipush (M := M_law nm) dL_law_37 ?_
  refine x_isub (M := M_law nm) dL_law_39 ?_
  by_cases q : L = 7
  · subst q
    refine x_icmp_gt (M := M_law nm) (tgt := 2455) dL_law_40 (by decide) (fun q => absurd q (by decide +kernel)) (fun _ => ?_)
    refine x_aload_n (M := M_law nm) dL_law_43 rfl ?_
    refine x_iload (M := M_law nm) dL_law_44 rfl ?_
    refine x_sald (M := M_law nm) dL_law_46 (by decide) hx (vp_inD (by decide +kernel)) ?_
    refine x_bipush (M := M_law nm) dL_law_47 ?_
    refine x_iand (M := M_law nm) dL_law_49 ?_
    obtain ⟨k, hk, e⟩ := and31 (xs (Int32.ofInt 1).toNatClampNeg)
    refine x_top (M := M_law nm) e ?_
    clear e
    rcases (show k = 0 ∨ k = 1 ∨ k = 2 ∨ k = 3 ∨ k = 4 ∨ k = 5 ∨ k = 6 ∨ k = 7 ∨ k = 8 ∨ k = 9 ∨ k = 10 ∨ k = 11 ∨ k = 12 ∨ k = 13 ∨ k = 14 ∨ k = 15 ∨ k = 16 ∨ k = 17 ∨ k = 18 ∨ k = 19 ∨ k = 20 ∨ k = 21 ∨ k = 22 ∨ k = 23 ∨ k = 24 ∨ k = 25 ∨ k = 26 ∨ k = 27 ∨ k = 28 ∨ k = 29 ∨ k = 30 ∨ k = 31 by omega) with rfl | rfl | rfl | rfl | rfl | rfl | rfl | rfl | rfl | rfl | rfl | rfl | rfl | rfl | rfl | rfl | rfl | rfl | rfl | rfl | rfl | rfl | rfl | rfl | rfl | rfl | rfl | rfl | rfl | rfl | rfl | rfl
    · exact x_tabIn (M := M_law nm) (tgt := 192) (off := 142) dL_law_50 (by decide +kernel) (by decide +kernel) (by decide +kernel) (by decide) (lop0 hl nm hx dg)
    · exact x_tabIn (M := M_law nm) (tgt := 296) (off := 246) dL_law_50 (by decide +kernel) (by decide +kernel) (by decide +kernel) (by decide) (lop1 hl nm hx dg)
    · exact x_tabIn (M := M_law nm) (tgt := 352) (off := 302) dL_law_50 (by decide +kernel) (by decide +kernel) (by decide +kernel) (by decide) (lop2 hl nm hx dg)
    · exact x_tabIn (M := M_law nm) (tgt := 365) (off := 315) dL_law_50 (by decide +kernel) (by decide +kernel) (by decide +kernel) (by decide) (lop3 hl nm hx dg)
    · exact x_tabIn (M := M_law nm) (tgt := 421) (off := 371) dL_law_50 (by decide +kernel) (by decide +kernel) (by decide +kernel) (by decide) (lop4 hl nm hx dg)
    · exact x_tabIn (M := M_law nm) (tgt := 477) (off := 427) dL_law_50 (by decide +kernel) (by decide +kernel) (by decide +kernel) (by decide) (lop5 hl nm hx dg)
    · exact x_tabIn (M := M_law nm) (tgt := 533) (off := 483) dL_law_50 (by decide +kernel) (by decide +kernel) (by decide +kernel) (by decide) (lop6 hl nm hx dg)
    · exact x_tabIn (M := M_law nm) (tgt := 589) (off := 539) dL_law_50 (by decide +kernel) (by decide +kernel) (by decide +kernel) (by decide) (lop7 hl nm hx dg)
    · exact x_tabIn (M := M_law nm) (tgt := 657) (off := 607) dL_law_50 (by decide +kernel) (by decide +kernel) (by decide +kernel) (by decide) (lop8 hl nm hx dg)
    · exact x_tabIn (M := M_law nm) (tgt := 713) (off := 663) dL_law_50 (by decide +kernel) (by decide +kernel) (by decide +kernel) (by decide) (lop9 hl nm hx dg)
    · exact x_tabIn (M := M_law nm) (tgt := 781) (off := 731) dL_law_50 (by decide +kernel) (by decide +kernel) (by decide +kernel) (by decide) (lop10 hl nm hx dg)
    · exact x_tabIn (M := M_law nm) (tgt := 844) (off := 794) dL_law_50 (by decide +kernel) (by decide +kernel) (by decide +kernel) (by decide) (lop11 hl nm hx dg)
    · exact x_tabIn (M := M_law nm) (tgt := 919) (off := 869) dL_law_50 (by decide +kernel) (by decide +kernel) (by decide +kernel) (by decide) (lop12 hl nm hx dg)
    · exact x_tabIn (M := M_law nm) (tgt := 975) (off := 925) dL_law_50 (by decide +kernel) (by decide +kernel) (by decide +kernel) (by decide) (lop13 hl nm hx dg)
    · exact x_tabIn (M := M_law nm) (tgt := 1031) (off := 981) dL_law_50 (by decide +kernel) (by decide +kernel) (by decide +kernel) (by decide) (lop14 hl nm hx dg)
    · exact x_tabIn (M := M_law nm) (tgt := 1123) (off := 1073) dL_law_50 (by decide +kernel) (by decide +kernel) (by decide +kernel) (by decide) (lop15 hl nm hx dg)
    · exact x_tabIn (M := M_law nm) (tgt := 1191) (off := 1141) dL_law_50 (by decide +kernel) (by decide +kernel) (by decide +kernel) (by decide) (lop16 hl nm hx dg)
    · exact x_tabIn (M := M_law nm) (tgt := 1278) (off := 1228) dL_law_50 (by decide +kernel) (by decide +kernel) (by decide +kernel) (by decide) (lop17 hl nm hx dg)
    · exact x_tabIn (M := M_law nm) (tgt := 1358) (off := 1308) dL_law_50 (by decide +kernel) (by decide +kernel) (by decide +kernel) (by decide) (lop18 hl nm hx dg)
    · exact x_tabIn (M := M_law nm) (tgt := 1426) (off := 1376) dL_law_50 (by decide +kernel) (by decide +kernel) (by decide +kernel) (by decide) (lop19 hl nm hx dg)
    · exact x_tabIn (M := M_law nm) (tgt := 1494) (off := 1444) dL_law_50 (by decide +kernel) (by decide +kernel) (by decide +kernel) (by decide) (lop20 hl nm hx dg)
    · exact x_tabIn (M := M_law nm) (tgt := 1574) (off := 1524) dL_law_50 (by decide +kernel) (by decide +kernel) (by decide +kernel) (by decide) (lop21 hl nm hx dg)
    · exact x_tabIn (M := M_law nm) (tgt := 1629) (off := 1579) dL_law_50 (by decide +kernel) (by decide +kernel) (by decide +kernel) (by decide) (lop22 hl nm hx dg)
    · exact x_tabIn (M := M_law nm) (tgt := 1697) (off := 1647) dL_law_50 (by decide +kernel) (by decide +kernel) (by decide +kernel) (by decide) (lop23 hl nm hx dg)
    · exact x_tabIn (M := M_law nm) (tgt := 1801) (off := 1751) dL_law_50 (by decide +kernel) (by decide +kernel) (by decide +kernel) (by decide) (lop24 hl nm hx dg)
    · exact x_tabIn (M := M_law nm) (tgt := 1881) (off := 1831) dL_law_50 (by decide +kernel) (by decide +kernel) (by decide +kernel) (by decide) (lop25 hl nm hx dg)
    · exact x_tabIn (M := M_law nm) (tgt := 1937) (off := 1887) dL_law_50 (by decide +kernel) (by decide +kernel) (by decide +kernel) (by decide) (lop26 hl nm hx dg)
    · exact x_tabIn (M := M_law nm) (tgt := 2005) (off := 1955) dL_law_50 (by decide +kernel) (by decide +kernel) (by decide +kernel) (by decide) (lop27 hl nm hx dg)
    · exact x_tabIn (M := M_law nm) (tgt := 2085) (off := 2035) dL_law_50 (by decide +kernel) (by decide +kernel) (by decide +kernel) (by decide) (lop28 hl nm hx dg)
    · exact x_tabIn (M := M_law nm) (tgt := 2153) (off := 2103) dL_law_50 (by decide +kernel) (by decide +kernel) (by decide +kernel) (by decide) (lop29 hl nm hx dg)
    · exact x_tabIn (M := M_law nm) (tgt := 2277) (off := 2227) dL_law_50 (by decide +kernel) (by decide +kernel) (by decide +kernel) (by decide) (lop30 hl nm hx dg)
    · exact x_tabIn (M := M_law nm) (tgt := 2357) (off := 2307) dL_law_50 (by decide +kernel) (by decide +kernel) (by decide +kernel) (by decide) (lop31 hl nm hx dg)
  · have hret : XX l E (M_law nm) 1312 342628 8074320 (fun o _ => o = .inl (some (.int 1))) 2455 [some (.ref 0), some (.ref 32), some (.ref 277), some (.ref 359), some (.int (Int32.ofInt 1)), none, none, none] [] (HH dg) 328 2463747 := by
      refine x_iconst (M := M_law nm) dL_law_2455 ?_
      exact x_zret (M := M_law nm) dL_law_2456 rfl (by decide) rfl (Nat.le_of_ble_eq_true rfl) (Nat.le_of_ble_eq_true rfl)
    refine x_icmp_gt (M := M_law nm) (tgt := 2455) dL_law_40 (by decide) (fun _ => hret) (fun q9 => absurd ?_ q9)
    rcases (show L = 0 ∨ L = 1 ∨ L = 2 ∨ L = 3 ∨ L = 4 ∨ L = 5 ∨ L = 6 by omega) with rfl | rfl | rfl | rfl | rfl | rfl | rfl <;> decide +kernel
end HED
