section STA
def en_fl : List Cond := flatC (Jvm.Cond.and given_1 narrow_1)
def en_iel : List (List Nat) := [[315, 316, 317, 318, 319], [324, 325, 326, 327, 328, 329, 330, 331, 332, 333], [339, 340, 341, 342, 343, 344, 345], [352, 353, 354, 355, 356, 357, 358, 359, 360, 361], [369, 370, 371, 372, 373, 374, 375, 376, 377, 378, 379, 380, 381, 382, 383], [392, 393, 394, 395, 396, 397, 398, 399, 400, 401, 402, 403], [413, 414, 415, 416, 417, 418, 419, 420, 421, 422, 423, 424, 425, 426, 427, 428, 429, 430], [457, 458, 459, 460, 461], [474, 475], [621, 622, 623, 624, 625, 626, 627, 628, 629, 630, 631, 632, 633, 634, 635, 636, 637, 638, 639, 640, 641, 642, 643, 644, 645, 646, 647, 648, 649, 650, 651, 652, 653, 654, 655, 656, 657, 658, 659, 660, 661, 662, 663, 664, 665, 666, 667, 668, 669, 670, 671, 672, 673, 674, 675, 676, 677, 678, 679, 680, 681, 682, 683, 684, 685, 686, 687, 688, 689, 690, 691, 692, 693, 694, 695, 696, 697, 698, 699, 700, 701, 702, 703, 704, 705, 706, 707, 708, 709, 710]]
def en_ine : List (List (Nat × Nat)) := [[(0, 0), (334, 0), (346, 0), (362, 0), (384, 0), (404, 0), (431, 0), (462, 0), (476, 0), (711, 0)], [(334, 1), (0, 0), (347, 0), (363, 0), (385, 0), (405, 0), (432, 0), (463, 0), (477, 0), (712, 0)], [(346, 1), (347, 1), (0, 0), (364, 0), (386, 0), (406, 0), (433, 0), (464, 0), (478, 0), (713, 0)], [(362, 1), (363, 1), (364, 1), (0, 0), (387, 0), (407, 0), (434, 0), (465, 0), (479, 0), (714, 0)], [(384, 1), (385, 1), (386, 1), (387, 1), (0, 0), (408, 0), (435, 0), (466, 0), (480, 0), (715, 0)], [(404, 1), (405, 1), (406, 1), (407, 1), (408, 1), (0, 0), (436, 0), (467, 0), (481, 0), (716, 0)], [(431, 1), (432, 1), (433, 1), (434, 1), (435, 1), (436, 1), (0, 0), (468, 0), (482, 0), (717, 0)], [(462, 1), (463, 1), (464, 1), (465, 1), (466, 1), (467, 1), (468, 1), (0, 0), (484, 0), (719, 0)], [(476, 1), (477, 1), (478, 1), (479, 1), (480, 1), (481, 1), (482, 1), (484, 1), (0, 0), (720, 0)], [(711, 1), (712, 1), (713, 1), (714, 1), (715, 1), (716, 1), (717, 1), (719, 1), (720, 1), (0, 0)]]
theorem all2 {n : Nat} {f : Nat → Nat} {P : Nat → Nat → Bool} (h : (List.range n).all (fun i => (List.range (f i)).all (fun j => P i j)) = true) (i : Nat) (hi : i < n) (j : Nat) (hj : j < f i) : P i j = true :=
  List.all_eq_true.mp (List.all_eq_true.mp h i (List.mem_range.mpr hi)) j (List.mem_range.mpr hj)
theorem all1 {n : Nat} {P : Nat → Bool} (h : (List.range n).all P = true) (i : Nat) (hi : i < n) : P i = true := List.all_eq_true.mp h i (List.mem_range.mpr hi)
theorem el_ok : (List.range 10).all (fun i => (List.range (en_lenS.getD i 0)).all (fun j => decide (en_fl[((en_iel.getD i []).getD j 0)]? = some (Cond.eq (.elem (.field (en_tm i) "java/lang/String" "value" "[B") (.int (Int32.ofNat j))) (.int ((en_bytS.getD i []).getD j 0)))))) = true := by decide +kernel
theorem ne_ok : (List.range 10).all (fun i => (List.range 10).all (fun j => decide (i = j) || (decide (en_fl[((en_ine.getD i []).getD j (0, 0)).1]? = some (Cond.not (Cond.eq (en_tm i) (en_tm j)))) || decide (en_fl[((en_ine.getD i []).getD j (0, 0)).1]? = some (Cond.not (Cond.eq (en_tm j) (en_tm i))))))) = true := by decide +kernel
theorem ex_ok : (List.range 10).all (fun i => decide (en_fl[(([311, 320, 335, 348, 365, 388, 409, 453, 470, 617] : List Nat).getD i 0)]? = some (Cond.exactly (en_tm i) "java/lang/String"))) = true := by decide +kernel
theorem co_ok : (List.range 10).all (fun i => decide (en_fl[(([312, 321, 336, 349, 366, 389, 410, 454, 471, 618] : List Nat).getD i 0)]? = some (Cond.eq (.field (en_tm i) "java/lang/String" "coder" "B") (.int 0)))) = true := by decide +kernel
theorem ar_ok : (List.range 10).all (fun i => decide (en_fl[(([313, 322, 337, 350, 367, 390, 411, 455, 472, 619] : List Nat).getD i 0)]? = some (Cond.arrayOf (.field (en_tm i) "java/lang/String" "value" "[B") .byte))) = true := by decide +kernel
theorem le_ok : (List.range 10).all (fun i => decide (en_fl[(([314, 323, 338, 351, 368, 391, 412, 456, 473, 620] : List Nat).getD i 0)]? = some (Cond.eq (.length (.field (en_tm i) "java/lang/String" "value" "[B")) (.int (Int32.ofNat (en_lenS.getD i 0)))))) = true := by decide +kernel
theorem un_ok : (List.range 4).all (fun j => decide (en_fl[14 + j]? = some (Cond.eq (.elem (.static RX11 "UNITS" "[I") (.int (Int32.ofNat j))) (.int (en_units j))))) = true := by decide +kernel
theorem nt_ok : (List.range 9).all (fun j => decide (en_fl[227 + j]? = some (Cond.eq (.elem (.static RX3 "NEITHER" "[I") (.int (Int32.ofNat j))) (.int (en_neith j))))) = true := by decide +kernel
variable {s : State} {b : Nat}
theorem fl_mem {i : Nat} {c : Cond} (hgs : ∀ w ∈ flatC (Jvm.Cond.and given_1 narrow_1), w.before #[Value.ref b] s = true) (h : decide (en_fl[i]? = some c) = true) : c.before #[Value.ref b] s = true := hgs _ (List.mem_of_getElem? (of_decide_eq_true h))
theorem en_X0 (hgv : (Jvm.Cond.and given_1 narrow_1).before #[Value.ref b] s = true) (hw : ∀ w ∈ WS, w.before #[Value.ref b] s = true) (ht1 : ∀ w ∈ tables_1, w.before #[Value.ref b] s = true) {A : Nat → Prop} (hnA : ∀ a : Nat, a < s.heap.size → ¬ A a) : ∃ F : Nat → Nat, F 0 = b ∧ en_X F A s := by
  have hgs := flat_of_before _ hgv
  obtain ⟨adK, adV, h1, h2⟩ := vk_Sof (args := #[Value.ref b]) (s := s) (N := 10) (tm := en_tm) (len := en_lenS) (byt := en_bytS) (A := A)
    (fun i hi => by have h9 := all1 (P := fun i => decide (en_lenS.getD i 0 < 2 ^ 31)) (by decide +kernel) i hi; exact of_decide_eq_true h9) (fun i hi => fl_mem hgs (all1 ex_ok i hi)) (fun i hi => fl_mem hgs (all1 co_ok i hi)) (fun i hi => fl_mem hgs (all1 ar_ok i hi)) (fun i hi => fl_mem hgs (all1 le_ok i hi)) (fun i hi j hj => fl_mem hgs (all2 el_ok i hi j hj))
    (fun i j hi hj hne => by
      have h9 := all2 (f := fun _ => 10) ne_ok i hi j hj
      rw [Bool.or_eq_true, Bool.or_eq_true, decide_eq_true_iff] at h9
      rcases h9 with h9 | h9 | h9
      · exact absurd h9 hne
      · exact Or.inl (fl_mem hgs h9)
      · exact Or.inr (fl_mem hgs h9)) hnA
  obtain ⟨u, hu1, hu2⟩ := va_Tof (args := #[Value.ref b]) (s := s) (tm := .static RX11 "UNITS" "[I") (ty := .int) (N := 4) (f := fun j => .int (en_units j)) (A := A) (by decide) (hgs _ (by decide +kernel)) (va_eqt (z := Int32.ofNat 4) (hgs _ (by decide +kernel))) (fun j hj => va_eqt (fl_mem hgs (all1 un_ok j hj))) hnA
  obtain ⟨v, hv1, hv2⟩ := va_Tof (args := #[Value.ref b]) (s := s) (tm := .static RX3 "NEITHER" "[I") (ty := .int) (N := 9) (f := fun j => .int (en_neith j)) (A := A) (by decide) (hgs _ (by decide +kernel)) (va_eqt (z := Int32.ofNat 9) (hgs _ (by decide +kernel))) (fun j hj => va_eqt (fl_mem hgs (all1 nt_ok j hj))) hnA
  have hq := va_Zqof (args := #[Value.ref b]) (s := s) (C := "jdk/internal/util/Preconditions") (n := "SIOOBE_FORMATTER") (d := "Ljava/util/function/BiFunction;") (A := A) (ht1 _ (by decide +kernel)) (hw _ t_25) (hgs _ (by decide +kernel)) hnA
  have hcs := va_Zof (args := #[Value.ref b]) (s := s) (C := "java/lang/String") (n := "COMPACT_STRINGS") (d := "Z") (v := .int 1) (A := A) (ht1 _ (by decide +kernel)) (hw _ t_23) (va_eqi (hgs _ (by decide +kernel))) hnA
  have hz1 := va_Zref (args := #[Value.ref b]) (s := s) (C := RX11) (n := "UNITS") (d := "[I") (A := A) (ht1 _ (by decide +kernel)) (hw _ t_1) hu1 hnA
  have hz2 := va_Zref (args := #[Value.ref b]) (s := s) (C := RX3) (n := "NEITHER") (d := "[I") (A := A) (ht1 _ (by decide +kernel)) (hw _ t_11) hv1 hnA
  obtain ⟨t, ht⟩ : ∃ t : Nat, va_Z "jdk/internal/util/Preconditions" "SIOOBE_FORMATTER" "Ljava/util/function/BiFunction;" .null A s s.heap ∨ va_Z "jdk/internal/util/Preconditions" "SIOOBE_FORMATTER" "Ljava/util/function/BiFunction;" (.ref t) A s s.heap := by
    rcases hq with hq | ⟨t, hq⟩
    · exact ⟨0, Or.inl hq⟩
    · exact ⟨t, Or.inr hq⟩
  refine ⟨fun k => if k = 0 then b else if k < 11 then adK (k - 1) else if k = 11 then u else if k = 12 then v else if k = 13 then t else adV (k - 17), rfl, ?_, ?_, hz1, hz2, hcs, hu2, hv2, ht⟩
  · refine ⟨fun i hi => ?_, fun i j hi hj e => ?_⟩
    · have e1 : (if 1 + i = 0 then b else if 1 + i < 11 then adK (1 + i - 1) else if 1 + i = 11 then u else if 1 + i = 12 then v else if 1 + i = 13 then t else adV (1 + i - 17)) = adK i := by
        rw [if_neg (by omega), if_pos (by omega), Nat.add_sub_cancel_left]
      have e2 : (if 17 + i = 0 then b else if 17 + i < 11 then adK (17 + i - 1) else if 17 + i = 11 then u else if 17 + i = 12 then v else if 17 + i = 13 then t else adV (17 + i - 17)) = adV i := by
        rw [if_neg (by omega), if_neg (by omega), if_neg (by omega), if_neg (by omega), if_neg (by omega), Nat.add_sub_cancel_left]
      simp only [e1, e2]
      exact h1.1 i hi
    · have e1 : ∀ i, i < 10 → (if 1 + i = 0 then b else if 1 + i < 11 then adK (1 + i - 1) else if 1 + i = 11 then u else if 1 + i = 12 then v else if 1 + i = 13 then t else adV (1 + i - 17)) = adK i := fun i hi => by
        rw [if_neg (by omega), if_pos (by omega), Nat.add_sub_cancel_left]
      simp only [e1 i hi, e1 j hj] at e
      exact h1.2 i j hi hj e
  · have hR : ∀ i, i < 10 → ∀ own k tx, (Cond.stringRef own k tx).before #[Value.ref b] s = true → (Term.string own k).eval #[Value.ref b] s none [] s = some (.ref (adK i)) → vk_R own k tx (if 1 + i = 0 then b else if 1 + i < 11 then adK (1 + i - 1) else if 1 + i = 11 then u else if 1 + i = 12 then v else if 1 + i = 13 then t else adV (1 + i - 17)) s := fun i hi own k tx g1 g2 => by
      rw [if_neg (by omega), if_pos (by omega), Nat.add_sub_cancel_left]
      refine vk_R.of g1 ?_
      exact g2
    intro q hq
    simp only [en_refs, List.mem_cons, List.not_mem_nil, or_false] at hq
    rcases hq with rfl | rfl | rfl | rfl | rfl | rfl | rfl | rfl | rfl | rfl | rfl
    · exact hR 0 (by decide) _ _ _ (ht1 _ (by decide +kernel)) (h2 0 (by decide))
    · exact hR 1 (by decide) _ _ _ (ht1 _ (by decide +kernel)) (h2 1 (by decide))
    · exact hR 2 (by decide) _ _ _ (ht1 _ (by decide +kernel)) (h2 2 (by decide))
    · exact hR 3 (by decide) _ _ _ (ht1 _ (by decide +kernel)) (h2 3 (by decide))
    · exact hR 4 (by decide) _ _ _ (ht1 _ (by decide +kernel)) (h2 4 (by decide))
    · exact hR 5 (by decide) _ _ _ (ht1 _ (by decide +kernel)) (h2 5 (by decide))
    · exact hR 6 (by decide) _ _ _ (ht1 _ (by decide +kernel)) (h2 6 (by decide))
    · exact hR 7 (by decide) _ _ _ (ht1 _ (by decide +kernel)) (h2 7 (by decide))
    · exact hR 8 (by decide) _ _ _ (ht1 _ (by decide +kernel)) (h2 8 (by decide))
    · exact hR 9 (by decide) _ _ _ (ht1 _ (by decide +kernel)) (h2 9 (by decide))
    · exact hR 7 (by decide) _ _ _ (ht1 _ (by decide +kernel)) (va_eqv (hgs _ (by decide +kernel)) (h2 7 (by decide)))
end STA
