abbrev kQ_tape : Nat := 42496
abbrev kQ_tapeSize : Nat := 8195
abbrev kQ_wrong : Nat := 8196
abbrev kQ_wrongPlace : Nat := 8197
abbrev kQ_box : Nat := 70144
abbrev kQ_foundSlots : Nat := 70400
abbrev kQ_foundKeys : Nat := 70656
abbrev kQ_foundCount : Nat := 8210
abbrev kW_digits : Nat := 42752
abbrev kW_levelKind : Nat := 43008
abbrev kW_levelCounter : Nat := 43264
abbrev kW_shape : Nat := 42756
abbrev kW_length : Nat := 42757
abbrev kW_at : Nat := 42758
abbrev kW_depth : Nat := 42759
abbrev kW_collections : Nat := 42760
abbrev kW_number : Nat := 42761
abbrev kW_wrong : Nat := 42762
abbrev kW_place : Nat := 42763
abbrev kB_digits : Nat := 43520
abbrev kB_levelLeft : Nat := 43776
abbrev kB_levelKind : Nat := 44032
abbrev kB_shape : Nat := 43524
abbrev kB_length : Nat := 43525
abbrev kB_at : Nat := 43526
abbrev kB_depth : Nat := 43527
abbrev kB_collections : Nat := 43528
abbrev kB_lowFirst : Nat := 43529
abbrev kB_number : Nat := 43530
abbrev kB_wrong : Nat := 43531
abbrev kB_place : Nat := 43532
abbrev kO_digits : Nat := 44288
abbrev kO_levelKind : Nat := 44544
abbrev kO_levelLeft : Nat := 44800
abbrev kO_lowFirst : Nat := 44291
abbrev kO_row : Nat := 45056
abbrev kO_size : Nat := 44293
abbrev kJ_place : Nat := 45568
abbrev kJ_number : Nat := 47360
abbrev kJ_ringPart : Nat := 47616
abbrev kJ_ringNumber : Nat := 47872
abbrev kJ_ringBegin : Nat := 48128
abbrev kJ_ringEnd : Nat := 48384
abbrev kJ_rings : Nat := 45319
abbrev kJ_partBegin : Nat := 48640
abbrev kJ_partEnd : Nat := 48896
abbrev kJ_joined : Nat := 49152
abbrev kN_lengthless : Nat := 49409
abbrev kN_keys : Nat := 51200
abbrev kN_keyCount : Nat := 49411
abbrev kN_order : Nat := 51456
abbrev kN_chain : Nat := 51712
abbrev kN_hotX : Nat := 51968
abbrev kN_hotY : Nat := 52224
abbrev kN_hot : Nat := 49416
abbrev kN_pieceFrom : Nat := 52480
abbrev kN_pieceTo : Nat := 52736
abbrev kN_pieceMask : Nat := 52992
abbrev kN_pieces : Nat := 49420
abbrev kG_above : Nat := 53504
abbrev kG_active : Nat := 53760
abbrev kG_actives : Nat := 53251
abbrev kG_isBoundary : Nat := 54016
abbrev kG_goesBack : Nat := 54272
abbrev kG_begin : Nat := 54528
abbrev kG_incident : Nat := 54784
abbrev kG_path : Nat := 55040
abbrev kG_onPath : Nat := 55296
abbrev kG_corner : Nat := 55552
abbrev kG_corners : Nat := 53259
abbrev kG_ringBegin : Nat := 55808
abbrev kG_ringArea : Nat := 56064
abbrev kG_shellOf : Nat := 56320
abbrev kG_order : Nat := 56576
abbrev kG_rings : Nat := 53264
abbrev kT_matrix : Nat := 58624
abbrev kT_keys : Nat := 58880
abbrev kT_rimX : Nat := 59136
abbrev kT_rimY : Nat := 59392
abbrev kT_rimOwner : Nat := 59648
abbrev kT_rims : Nat := 56838
abbrev kT_share : Nat := 59904
abbrev kT_whole : Nat := 60160
abbrev kT_cuts : Nat := 56841
abbrev kT_covers : Nat := 60416
abbrev kT_crossed : Nat := 60672
abbrev kP_keys : Nat := 61184
abbrev kP_placeX : Nat := 61440
abbrev kP_placeY : Nat := 61696
abbrev kP_places : Nat := 60931
abbrev kP_numberOf : Nat := 61952
abbrev kP_placeWith : Nat := 62208
abbrev kP_corner : Nat := 62464
abbrev kP_told : Nat := 62720
abbrev kP_wayFrom : Nat := 62976
abbrev kP_wayTo : Nat := 63232
abbrev kP_ways : Nat := 60938
abbrev kP_round : Nat := 63488
abbrev kP_roundSize : Nat := 60940
abbrev kP_triangle : Nat := 63744
abbrev kP_triangleCount : Nat := 60942
abbrev kP_stays : Nat := 64000
abbrev kP_stack : Nat := 64256
abbrev kI_x : Nat := 64768
abbrev kI_y : Nat := 65024
abbrev kI_used : Nat := 69632
abbrev kI_sign : Nat := 69888
abbrev kR_thrown : Nat := 70912
abbrev kR_digits : Nat := 70913
abbrev kR_unit : Nat := 70914
abbrev kR_tape : Nat := 71168
abbrev kR_tapeMany : Nat := 70916
abbrev kR_result : Nat := 71424
abbrev kR_resultMany : Nat := 70918
abbrev kR_faultKind : Nat := 70919
abbrev kR_faultPlace : Nat := 70920
abbrev kR_planMany : Nat := 71680
abbrev kR_plan : Nat := 71936
abbrev kR_pointMany : Nat := 72192
abbrev kR_xs : Nat := 72448
abbrev kR_ys : Nat := 72704
abbrev kR_place : Nat := 72960
abbrev kR_foundSlot : Nat := 73216
abbrev kR_foundMany : Nat := 70928
abbrev kR_at : Nat := 70929
abbrev kR_size : Nat := 70930
abbrev kR_openAt : Nat := 73472
abbrev kR_open : Nat := 70932
abbrev kR_opened : Nat := 70933
abbrev kR_numberFrom : Nat := 70934
abbrev kR_numberTo : Nat := 70935
abbrev kR_numberWhole : Nat := 70936
abbrev kR_value : Nat := 70937
abbrev kR_bigFirst : Nat := 70938
abbrev kR_left : Nat := 73728
abbrev kR_partKind : Nat := 73984
abbrev kR_levels : Nat := 70941
abbrev kR_planAt : Nat := 70942
abbrev kR_pointAt : Nat := 70943
abbrev kR_lowX : Nat := 74240
abbrev kR_lowY : Nat := 74496
abbrev kR_highX : Nat := 74752
abbrev kR_highY : Nat := 75008
abbrev kR_w : Nat := 75264
abbrev kR_limbs : Nat := 75520
abbrev kR_sign : Nat := 75776
abbrev kR_signX : Nat := 76032
abbrev kR_signY : Nat := 76288
abbrev kR_sx : Nat := 76544
abbrev kR_sy : Nat := 76800
abbrev kR_ex : Nat := 77056
abbrev kR_ey : Nat := 77312
abbrev kR_ringOf : Nat := 77568
abbrev kR_numberOf : Nat := 77824
abbrev kR_shapeOf : Nat := 78080
abbrev kR_segments : Nat := 70960
abbrev kR_isInner : Nat := 70961
abbrev kR_meetX : Nat := 70962
abbrev kR_meetY : Nat := 70963
abbrev kR_ringFrom : Nat := 78336
abbrev kR_ringSize : Nat := 78592
abbrev kR_ringPart : Nat := 78848
abbrev kR_ringNumber : Nat := 79104
abbrev kR_firstSegment : Nat := 79360
abbrev kR_ringMany : Nat := 70969
abbrev kR_partFrom : Nat := 79616
abbrev kR_partMany : Nat := 70971
abbrev kR_touchX : Nat := 79872
abbrev kR_touchY : Nat := 80128
abbrev kR_touchMany : Nat := 70974
abbrev kR_passRing : Nat := 80384
abbrev kR_passTouch : Nat := 80640
abbrev kR_passes : Nat := 70977
abbrev kR_joined : Nat := 80896
abbrev kR_hotX : Nat := 81152
abbrev kR_hotY : Nat := 81408
abbrev kR_hots : Nat := 70981
abbrev kR_chained : Nat := 70982
abbrev kR_chain : Nat := 81664
abbrev kR_chainNum : Nat := 81920
abbrev kR_chainDen : Nat := 82176
abbrev kR_chainOpen : Nat := 82432
abbrev kR_chainMany : Nat := 70987
abbrev kR_lowNum : Nat := 70988
abbrev kR_lowDen : Nat := 70989
abbrev kR_lowOpen : Nat := 70990
abbrev kR_highNum : Nat := 70991
abbrev kR_highDen : Nat := 70992
abbrev kR_highOpen : Nat := 70993
abbrev kR_pieceFrom : Nat := 82688
abbrev kR_pieceTo : Nat := 82944
abbrev kR_pieceBits : Nat := 83200
abbrev kR_pieces : Nat := 70997
abbrev kR_edgeFrom : Nat := 83456
abbrev kR_edgeTo : Nat := 83712
abbrev kR_edgeDone : Nat := 83968
abbrev kR_edges : Nat := 71001
abbrev kR_way : Nat := 84224
abbrev kR_wayMany : Nat := 71003
abbrev kR_onWay : Nat := 84480
abbrev kR_corner : Nat := 84736
abbrev kR_corners : Nat := 71006
abbrev kR_outFrom : Nat := 84992
abbrev kR_outMany : Nat := 85248
abbrev kR_outArea : Nat := 85504
abbrev kR_outShell : Nat := 85760
abbrev kR_outs : Nat := 71011
abbrev kR_slotOf : Nat := 86016
abbrev kR_typeOf : Nat := 86272
abbrev kR_partsOf : Nat := 86528
abbrev kR_segmentsOf : Nat := 86784
abbrev kR_hasInside : Nat := 87040
abbrev kR_lineEnd : Nat := 87296
abbrev kR_lineEnds : Nat := 87552
abbrev kR_matrix : Nat := 87808
abbrev kR_baseX : Nat := 71020
abbrev kR_baseY : Nat := 71021
abbrev kR_wayX : Nat := 71022
abbrev kR_wayY : Nat := 71023
abbrev kR_offX : Nat := 71024
abbrev kR_offY : Nat := 71025
abbrev kR_partNum : Nat := 88064
abbrev kR_partDen : Nat := 88320
abbrev kR_cutsMany : Nat := 71028
abbrev kR_spotX : Nat := 88576
abbrev kR_spotY : Nat := 88832
abbrev kR_spots : Nat := 71031
abbrev kR_hullSpot : Nat := 89088
abbrev kR_hullMany : Nat := 71033
abbrev kR_isDone : Nat := 89344
abbrev kR_waitFrom : Nat := 89600
abbrev kR_waitTo : Nat := 89856
abbrev kR_waits : Nat := 71037
abbrev kR_onCircle : Nat := 90112
abbrev kR_circleMany : Nat := 71039
abbrev kR_triangleA : Nat := 90368
abbrev kR_triangleB : Nat := 90624
abbrev kR_triangleC : Nat := 90880
abbrev kR_triangleMany : Nat := 71043
abbrev kR_stays : Nat := 91136
abbrev kR_spanFrom : Nat := 91392
abbrev kR_spanTo : Nat := 91648
abbrev kA_plan (s : Nat) : Nat := (s + 1) * 256
abbrev kA_x (s : Nat) : Nat := (s + 2) * 256
abbrev kA_y (s : Nat) : Nat := (s + 3) * 256
abbrev kA_plans (s : Nat) : Nat := s * 256 + 3
abbrev kA_points (s : Nat) : Nat := s * 256 + 4
abbrev kE_ax (s : Nat) : Nat := (s + 1) * 256
abbrev kE_ay (s : Nat) : Nat := (s + 2) * 256
abbrev kE_bx (s : Nat) : Nat := (s + 3) * 256
abbrev kE_by (s : Nat) : Nat := (s + 4) * 256
abbrev kE_mark (s : Nat) : Nat := (s + 5) * 256
abbrev kE_size (s : Nat) : Nat := s * 256 + 5
abbrev kE_placeX (s : Nat) : Nat := s * 256 + 6
abbrev kE_placeY (s : Nat) : Nat := s * 256 + 7
noncomputable def fQ_layOnTape (σ : SG) (four_0 : Int) : Option SG :=
  bd_ (whl_ (S := Int × SG) (R := Int × SG) (fun (shift_1, σ_2) => if (0 ≤ (w32 shift_1)) ∧ ((w32 (σ_2 kQ_tapeSize 0)) < 65536) then wa_ σ_2 kQ_tape 65536 (w32 (σ_2 kQ_tapeSize 0)) (w8 (q_ius four_0 shift_1)) fun σ_10 => wf_ σ_10 kQ_tapeSize ((σ_10 kQ_tapeSize 0) + 1) fun σ_12 => some (.inl ((shift_1 + (-8)), σ_12)) else some (.inr (shift_1, σ_2))) (24, σ)) fun (shift_22, σ_23) => some σ_23
noncomputable def fQ_feed (σ : SG) (a_0 : Int) (b_0 : Int) (c_0 : Int) (d_0 : Int) (e_0 : Int) : Option ((Int ⊕ Nat) × SG) :=
  if 65516 < (w32 (σ kQ_tapeSize 0)) then some (.inr 1, σ) else bd_ (fQ_layOnTape σ a_0) fun σ_3 => bd_ (fQ_layOnTape σ_3 b_0) fun σ_5 => bd_ (fQ_layOnTape σ_5 c_0) fun σ_7 => bd_ (fQ_layOnTape σ_7 d_0) fun σ_9 => bd_ (fQ_layOnTape σ_9 e_0) fun σ_11 => some (.inl (σ_11 kQ_tapeSize 0), σ_11)
noncomputable def fQ_end (σ : SG) (n_0 : Int) : Option ((Int ⊕ Nat) × SG) :=
  if ((w32 n_0) < 0) ∨ (20 < (w32 n_0)) then some (.inr 2, σ) else if (w32 (σ kQ_tapeSize 0)) < 20 then some (.inr 1, σ) else wf_ σ kQ_tapeSize ((σ kQ_tapeSize 0) - (20 - n_0)) fun σ_2 => some (.inl (σ_2 kQ_tapeSize 0), σ_2)
noncomputable def fQ_again (σ : SG) : Option (Int × SG) :=
  wf_ σ kQ_tapeSize (q_mni (σ kO_size 0) 65536) fun σ_1 => cp_ σ_1 kO_row 80000 0 kQ_tape 65536 0 (w32 (σ_1 kQ_tapeSize 0)) fun σ_2 => some ((σ_2 kQ_tapeSize 0), σ_2)
noncomputable def fQ_byteAt (σ : SG) (i_0 : Int) : Option ((Int ⊕ Nat) × SG) :=
  if ((w32 i_0) < 0) ∨ ((w32 (σ kO_size 0)) ≤ (w32 i_0)) then some (.inr 0, σ) else rd_ σ kO_row 80000 (w32 i_0) fun x_1 => some (.inl (q_ian (w8 x_1) 255), σ)
noncomputable def fA_clear (σ : SG) (this_0 : Nat) : Option SG :=
  wf_ σ (kA_plans this_0) 0 fun σ_1 => wf_ σ_1 (kA_points this_0) 0 fun σ_2 => some σ_2
noncomputable def fA_kind (σ : SG) (this_0 : Nat) : Option Int :=
  bd_ (if 0 < (w32 (σ (kA_plans this_0) 0)) then rd_ σ (kA_plan this_0) 2048 0 fun x_4 => some x_4 else some 0) fun x_8 => some x_8
noncomputable def fQ_kindOrFault (σ : SG) (shape_0 : Nat) (good_0 : Bool) (code_0 : Int) (at_0 : Int) : Option ((Int ⊕ Nat) × SG) :=
  wf_ σ kQ_wrong code_0 fun σ_1 => wf_ σ_1 kQ_wrongPlace at_0 fun σ_2 => if good_0 = true then bd_ (fA_kind σ_2 shape_0) fun x_5 => some (.inl x_5, σ_2) else bd_ (fA_clear σ_2 shape_0) fun σ_7 => some (.inr 2, σ_7)
noncomputable def fQ_fault (σ : SG) (what_0 : Int) : Option ((Int ⊕ Nat) × SG) :=
  if ((w32 what_0) < 0) ∨ (1 < (w32 what_0)) then some (.inr 0, σ) else some (.inl (if (w32 what_0) = 0 then (σ kQ_wrong 0) else (σ kQ_wrongPlace 0)), σ)
noncomputable def fQ_slotNumbered (σ : SG) (slot_0 : Int) : Option ((Nat ⊕ Nat) × SG) :=
  if ((w32 slot_0) < 0) ∨ (32 ≤ (w32 slot_0)) then some (.inr 0, σ) else ck_ (0 ≤ (w32 slot_0) ∧ (w32 slot_0) < 32) (some (.inl (34 + 4 * (w32 slot_0).toNat), σ))
noncomputable def fA_isThere (σ : SG) (this_0 : Nat) : Bool :=
  (decide (0 < (w32 (σ (kA_plans this_0) 0))))
noncomputable def fQ_mustBeThere (σ : SG) (shape_0 : Nat) : Option ((Unit ⊕ Nat) × SG) :=
  if (fA_isThere σ shape_0) = true then some (.inl (), σ) else some (.inr 1, σ)
noncomputable def fA_become (σ : SG) (this_0 : Nat) (other_0 : Nat) : Option SG :=
  wf_ σ (kA_plans this_0) (σ (kA_plans other_0) 0) fun σ_1 => wf_ σ_1 (kA_points this_0) (σ_1 (kA_points other_0) 0) fun σ_2 => cp_ σ_2 (kA_plan other_0) 2048 0 (kA_plan this_0) 2048 0 (w32 (σ_2 (kA_plans this_0) 0)) fun σ_3 => cp_ σ_3 (kA_x other_0) 2048 0 (kA_x this_0) 2048 0 (w32 (σ_3 (kA_points this_0) 0)) fun σ_5 => cp_ σ_5 (kA_y other_0) 2048 0 (kA_y this_0) 2048 0 (w32 (σ_5 (kA_points this_0) 0)) fun σ_7 => some σ_7
noncomputable def fQ_copy (σ : SG) (from_0 : Int) (to_0 : Int) : Option ((Int ⊕ Nat) × SG) :=
  bt_ (fQ_slotNumbered σ from_0) fun x_3 σ_2 => ck_ (isS x_3) (bt_ (fQ_slotNumbered σ_2 to_0) fun x_9 σ_8 => ck_ (isS x_9) (bt_ (fQ_mustBeThere σ_8 x_3) fun _ σ_14 => bd_ (fA_become σ_14 x_9 x_3) fun σ_19 => bd_ (fA_kind σ_19 x_9) fun x_21 => some (.inl x_21, σ_19)))
noncomputable def fQ_drop (σ : SG) (slot_0 : Int) : Option ((Bool ⊕ Nat) × SG) :=
  bt_ (fQ_slotNumbered σ slot_0) fun x_3 σ_2 => ck_ (isS x_3) (bd_ (fA_clear σ_2 x_3) fun σ_8 => some (.inl (fA_isThere σ_2 x_3), σ_8))
noncomputable def fA_isLike (σ : SG) (this_0 : Nat) (other_0 : Nat) : Option Bool :=
  if (¬ (w32 (σ (kA_plans this_0) 0)) = (w32 (σ (kA_plans other_0) 0))) ∨ (¬ (w32 (σ (kA_points this_0) 0)) = (w32 (σ (kA_points other_0) 0))) then some false else bx_ (whl_ (S := Int) (R := (Int) ⊕ _) (fun i_1 => if (w32 i_1) < (w32 (σ (kA_plans this_0) 0)) then rd_ σ (kA_plan this_0) 2048 (w32 i_1) fun x_10 => rd_ σ (kA_plan other_0) 2048 (w32 i_1) fun x_12 => if ¬ (w32 x_10) = (w32 x_12) then some (.inr (.inr false)) else some (.inl (i_1 + 1)) else some (.inr (.inl i_1))) 0) fun i_17 => bx_ (whl_ (S := Int) (R := (Int) ⊕ _) (fun i_18 => if (w32 i_18) < (w32 (σ (kA_points this_0) 0)) then rd_ σ (kA_x this_0) 2048 (w32 i_18) fun x_40 => rd_ σ (kA_x other_0) 2048 (w32 i_18) fun x_42 => if ¬ (w32 x_40) = (w32 x_42) then some (.inr (.inr false)) else rd_ σ (kA_y this_0) 2048 (w32 i_18) fun x_45 => rd_ σ (kA_y other_0) 2048 (w32 i_18) fun x_47 => if ¬ (w32 x_45) = (w32 x_47) then some (.inr (.inr false)) else some (.inl (i_18 + 1)) else some (.inr (.inl i_18))) 0) fun i_52 => some true
noncomputable def fQ_same (σ : SG) (slot_0 : Int) (other_0 : Int) : Option ((Bool ⊕ Nat) × SG) :=
  bt_ (fQ_slotNumbered σ slot_0) fun x_3 σ_2 => ck_ (isS x_3) (bt_ (fQ_slotNumbered σ_2 other_0) fun x_9 σ_8 => ck_ (isS x_9) (bd_ (fA_isLike σ_8 x_3 x_9) fun x_14 => some (.inl x_14, σ_8)))
noncomputable def fQ_plan (σ : SG) (slot_0 : Int) (i_0 : Int) : Option ((Int ⊕ Nat) × SG) :=
  bt_ (fQ_slotNumbered σ slot_0) fun x_3 σ_2 => ck_ (isS x_3) (if ((w32 i_0) < 0) ∨ ((w32 (σ_2 (kA_plans x_3) 0)) ≤ (w32 i_0)) then some (.inr 0, σ_2) else rd_ σ_2 (kA_plan x_3) 2048 (w32 i_0) fun x_7 => some (.inl x_7, σ_2))
noncomputable def fQ_ordinate (σ : SG) (slot_0 : Int) (i_0 : Int) (what_0 : Int) : Option ((Int ⊕ Nat) × SG) :=
  bt_ (fQ_slotNumbered σ slot_0) fun x_3 σ_2 => ck_ (isS x_3) (if ((((w32 i_0) < 0) ∨ ((w32 (σ_2 (kA_points x_3) 0)) ≤ (w32 i_0))) ∨ ((w32 what_0) < 0)) ∨ (1 < (w32 what_0)) then some (.inr 0, σ_2) else bd_ (if (w32 what_0) = 0 then rd_ σ_2 (kA_x x_3) 2048 (w32 i_0) fun x_12 => some x_12 else rd_ σ_2 (kA_y x_3) 2048 (w32 i_0) fun x_15 => some x_15) fun x_18 => some (.inl x_18, σ_2))
noncomputable def fQ_slotsWithShapes (σ : SG) : Option Int :=
  bd_ (whl_ (S := Int × Int) (R := Int × Int) (fun (there_1, i_2) => if (w32 i_2) < 32 then bd_ (ck_ (0 ≤ (w32 i_2) ∧ (w32 i_2) < 32) (if (fA_isThere σ (34 + 4 * (w32 i_2).toNat)) = true then some (there_1 + 1) else some there_1)) fun there_19 => some (.inl (there_19, (i_2 + 1))) else some (.inr (there_1, i_2))) (0, 0)) fun (there_23, i_24) => some there_23
noncomputable def fQ_count (σ : SG) (slot_0 : Int) (what_0 : Int) : Option ((Int ⊕ Nat) × SG) :=
  bt_ (fQ_slotNumbered σ slot_0) fun x_3 σ_2 => ck_ (isS x_3) (if (w32 what_0) = 0 then some (.inl (σ_2 (kA_plans x_3) 0), σ_2) else if (w32 what_0) = 1 then some (.inl (σ_2 (kA_points x_3) 0), σ_2) else if (w32 what_0) = 2 then some (.inl (σ_2 kQ_tapeSize 0), σ_2) else if (w32 what_0) = 3 then some (.inl (σ_2 kO_size 0), σ_2) else if (w32 what_0) = 4 then bd_ (fQ_slotsWithShapes σ_2) fun x_13 => some (.inl x_13, σ_2) else if (w32 what_0) = 5 then some (.inl (σ_2 kQ_foundCount 0), σ_2) else some (.inr 0, σ_2))
noncomputable def fU_fillI (σ : SG) (a_0 : Nat) (a_n : Nat) (val_0 : Int) : Option SG :=
  bd_ (whl_ (S := Int × SG) (R := Int × SG) (fun (i_1, σ_2) => if (w32 i_1) < (w32 (a_n : Int)) then wa_ σ_2 (a_0 * 256) (a_n : Int) (w32 i_1) val_0 fun σ_11 => some (.inl ((i_1 + 1), σ_11)) else some (.inr (i_1, σ_2))) (0, σ)) fun (i_15, σ_16) => some σ_16
noncomputable def fJ_isEmpty (σ : SG) (part_0 : Int) : Option Bool :=
  bd_ (rd_ σ kJ_partBegin 2048 (w32 part_0) fun x_1 => rd_ σ kJ_partEnd 2048 (w32 part_0) fun x_3 => if (w32 x_3) ≤ (w32 x_1) then some true else some false) fun x_8 => some x_8
noncomputable def fL_compare (x_0 : Int) (y_0 : Int) : Int :=
  (if (w64 x_0) < (w64 y_0) then (-1) else (if (w64 x_0) = (w64 y_0) then 0 else 1))
noncomputable def fQ_turnOf (ax_0 : Int) (ay_0 : Int) (bx_0 : Int) (by_0 : Int) (cx_0 : Int) (cy_0 : Int) : Int :=
  (fL_compare ((bx_0 - ax_0) * (cy_0 - ay_0)) ((by_0 - ay_0) * (cx_0 - ax_0)))
noncomputable def fE_turn (σ : SG) (this_0 : Nat) (i_0 : Int) (x_0 : Int) (y_0 : Int) : Option Int :=
  rd_ σ (kE_ax this_0) (gsz this_0 : Nat) (w32 i_0) fun x_1 => rd_ σ (kE_ay this_0) (gsz this_0 : Nat) (w32 i_0) fun x_3 => rd_ σ (kE_bx this_0) (gsz this_0 : Nat) (w32 i_0) fun x_5 => rd_ σ (kE_by this_0) (gsz this_0 : Nat) (w32 i_0) fun x_7 => some (fQ_turnOf (w32 x_1) (w32 x_3) (w32 x_5) (w32 x_7) (w32 x_0) (w32 y_0))
noncomputable def fJ_isInsideBehindBegin (σ : SG) (ring_0 : Int) (i_0 : Int) : Option Bool :=
  rd_ σ 46080 2048 (w32 i_0) fun x_1 => rd_ σ 46336 2048 (w32 i_0) fun x_3 => rd_ σ 46592 2048 (w32 i_0) fun x_5 => rd_ σ 46848 2048 (w32 i_0) fun x_7 => rd_ σ kJ_ringBegin 2048 (w32 ring_0) fun x_9 => bd_ (whl_ (S := Bool × Int) (R := Bool × Int) (fun (odd_11, k_12) => rd_ σ kJ_ringEnd 2048 (w32 ring_0) fun x_20 => if (w32 k_12) < (w32 x_20) then bd_ (rd_ σ 46336 2048 (w32 k_12) fun x_23 => if (w32 x_3) < (w32 x_23) then some true else rd_ σ 46336 2048 (w32 k_12) fun x_27 => if (w32 x_27) = (w32 x_3) then if (w64 ((w32 x_7) - (w32 x_3))) < 0 then some true else some false else some false) fun x_34 => bd_ (rd_ σ 46848 2048 (w32 k_12) fun x_35 => if (w32 x_3) < (w32 x_35) then some true else rd_ σ 46848 2048 (w32 k_12) fun x_39 => if (w32 x_39) = (w32 x_3) then if (w64 ((w32 x_7) - (w32 x_3))) < 0 then some true else some false else some false) fun x_46 => if x_34 = x_46 then some (.inl (odd_11, (k_12 + 1))) else bd_ (fE_turn σ 179 k_12 x_1 x_3) fun x_50 => bd_ (if (w32 x_50) = 0 then rd_ σ 46592 2048 (w32 k_12) fun x_56 => rd_ σ 46080 2048 (w32 k_12) fun x_58 => rd_ σ 46848 2048 (w32 k_12) fun x_60 => rd_ σ 46336 2048 (w32 k_12) fun x_62 => lt_ (fQ_turnOf 0 0 ((w32 x_56) - (w32 x_58)) ((w32 x_60) - (w32 x_62)) ((w32 x_5) - (w32 x_1)) ((w32 x_7) - (w32 x_3))) fun x_64 => some x_64 else some x_50) fun turn_67 => bd_ (if ((x_46 = true) ∧ (0 < (w32 turn_67))) ∨ (¬ (x_46 = true) ∧ ((w32 turn_67) < 0)) then some (decide (¬ (odd_11 = true))) else some odd_11) fun odd_85 => some (.inl (odd_85, (k_12 + 1))) else some (.inr (odd_11, k_12))) (false, x_9)) fun (odd_98, k_99) => some odd_98
noncomputable def fQ_isCrossedFrom (ax_0 : Int) (ay_0 : Int) (bx_0 : Int) (by_0 : Int) (x_0 : Int) (y_0 : Int) : Bool :=
  if (decide ((w32 y_0) < (w32 ay_0))) = (decide ((w32 y_0) < (w32 by_0))) then false else (if (decide ((w32 y_0) < (w32 by_0))) = true then (decide (0 < (w32 (fQ_turnOf (w32 ax_0) (w32 ay_0) (w32 bx_0) (w32 by_0) (w32 x_0) (w32 y_0))))) else (decide ((w32 (fQ_turnOf (w32 ax_0) (w32 ay_0) (w32 bx_0) (w32 by_0) (w32 x_0) (w32 y_0))) < 0)) : Bool)
noncomputable def fQ_isOnSegment (ax_0 : Int) (ay_0 : Int) (bx_0 : Int) (by_0 : Int) (x_0 : Int) (y_0 : Int) : Bool :=
  (decide ((((((w32 (q_mni ax_0 bx_0)) ≤ (w32 x_0)) ∧ ((w32 x_0) ≤ (w32 (q_mxi ax_0 bx_0)))) ∧ ((w32 (q_mni ay_0 by_0)) ≤ (w32 y_0))) ∧ ((w32 y_0) ≤ (w32 (q_mxi ay_0 by_0)))) ∧ ((w32 (fQ_turnOf (w32 ax_0) (w32 ay_0) (w32 bx_0) (w32 by_0) (w32 x_0) (w32 y_0))) = 0)))
noncomputable def fJ_whereIs (σ : SG) (ring_0 : Int) (x_0 : Int) (y_0 : Int) : Option Int :=
  rd_ σ kJ_ringBegin 2048 (w32 ring_0) fun x_1 => bx_ (whl_ (S := Bool × Int) (R := (Bool × Int) ⊕ _) (fun (odd_3, k_4) => rd_ σ kJ_ringEnd 2048 (w32 ring_0) fun x_12 => if (w32 k_4) < (w32 x_12) then rd_ σ 46080 2048 (w32 k_4) fun x_15 => rd_ σ 46336 2048 (w32 k_4) fun x_17 => rd_ σ 46592 2048 (w32 k_4) fun x_19 => rd_ σ 46848 2048 (w32 k_4) fun x_21 => if (fQ_isOnSegment x_15 x_17 x_19 x_21 x_0 y_0) = true then some (.inr (.inr 1)) else bd_ (if (fQ_isCrossedFrom x_15 x_17 x_19 x_21 x_0 y_0) = true then some (decide (¬ (odd_3 = true))) else some odd_3) fun odd_33 => some (.inl (odd_33, (k_4 + 1))) else some (.inr (.inl (odd_3, k_4)))) (false, x_1)) fun (odd_37, k_38) => some (if odd_37 = true then 0 else 2)
noncomputable def fJ_liesIn (σ : SG) (ring_0 : Int) (other_0 : Int) : Option Bool :=
  rd_ σ kJ_ringBegin 2048 (w32 ring_0) fun x_1 => bx_ (whl_ (S := Int) (R := (Int) ⊕ _) (fun i_3 => rd_ σ kJ_ringEnd 2048 (w32 ring_0) fun x_11 => if (w32 i_3) < (w32 x_11) then rd_ σ 46080 2048 (w32 i_3) fun x_14 => rd_ σ 46336 2048 (w32 i_3) fun x_16 => bd_ (fJ_whereIs σ other_0 x_14 x_16) fun x_19 => if ¬ (w32 x_19) = 1 then some (.inr (.inr (decide ((w32 x_19) = 0)))) else some (.inl (i_3 + 1)) else some (.inr (.inl i_3))) x_1) fun i_25 => bd_ (rd_ σ kJ_ringBegin 2048 (w32 ring_0) fun x_26 => rd_ σ kJ_ringEnd 2048 (w32 ring_0) fun x_28 => if (w32 x_26) < (w32 x_28) then rd_ σ kJ_ringBegin 2048 (w32 ring_0) fun x_31 => bd_ (fJ_isInsideBehindBegin σ other_0 x_31) fun x_34 => if x_34 = true then some true else some false else some false) fun x_39 => some x_39
noncomputable def fJ_liesInPart (σ : SG) (part_0 : Int) (other_0 : Int) : Option Bool :=
  bd_ (fJ_isEmpty σ part_0) fun x_11 => if x_11 = true then some false else bd_ (fJ_isEmpty σ other_0) fun x_14 => if x_14 = true then some false else rd_ σ kJ_partBegin 2048 (w32 part_0) fun x_16 => rd_ σ kJ_partBegin 2048 (w32 other_0) fun x_18 => bd_ (fJ_liesIn σ x_16 x_18) fun x_21 => if x_21 = true then rd_ σ kJ_partBegin 2048 (w32 other_0) fun x_23 => bx_ (whl_ (S := Int) (R := (Int) ⊕ _) (fun hole_25 => rd_ σ kJ_partEnd 2048 (w32 other_0) fun x_33 => if (w32 hole_25) < (w32 x_33) then bd_ (fJ_liesIn σ x_16 hole_25) fun x_37 => if x_37 = true then some (.inr (.inr false)) else some (.inl (hole_25 + 1)) else some (.inr (.inl hole_25))) (x_23 + 1)) fun hole_41 => some true else some false
noncomputable def fJ_tell (σ : SG) (fault_0 : Int) (part_0 : Int) (ring_0 : Int) : Option (Int × SG) :=
  wa_ σ kJ_place 7 1 part_0 fun σ_1 => wa_ σ_1 kJ_place 7 2 ring_0 fun σ_3 => some (fault_0, σ_3)
noncomputable def fJ_innerFault (σ : SG) (parts_0 : Int) : Option (Int × SG) :=
  bx_ (whl_ (S := Int × SG) (R := (Int × SG) ⊕ _) (fun (part_1, σ_2) => if (w32 part_1) < (w32 parts_0) then bx_ (whl_ (S := Int × SG) (R := (Int × SG) ⊕ _) (fun (other_11, σ_12) => if (w32 other_11) < (w32 parts_0) then bd_ (fJ_liesInPart σ_12 part_1 other_11) fun x_36 => if x_36 = true then wa_ σ_12 kJ_place 7 4 other_11 fun σ_38 => bd_ (fJ_tell σ_38 11 part_1 (-1)) fun (x_42, σ_41) => some (.inr (.inr (.inr (.inr (x_42, σ_41))))) else bd_ (fJ_liesInPart σ_12 other_11 part_1) fun x_44 => if x_44 = true then wa_ σ_12 kJ_place 7 4 other_11 fun σ_46 => bd_ (fJ_tell σ_46 11 part_1 (-1)) fun (x_50, σ_49) => some (.inr (.inr (.inr (.inr (x_50, σ_49))))) else some (.inl ((other_11 + 1), σ_12)) else some (.inr (.inl (other_11, σ_12)))) ((part_1 + 1), σ_2)) fun (other_53, σ_54) => some (.inl ((part_1 + 1), σ_54)) else some (.inr (.inl (part_1, σ_2)))) (0, σ)) fun (part_58, σ_59) => some (0, σ_59)
noncomputable def fA_areLike (σ : SG) (this_0 : Nat) (i_0 : Int) (j_0 : Int) : Option Bool :=
  bd_ (rd_ σ (kA_x this_0) 2048 (w32 i_0) fun x_1 => rd_ σ (kA_x this_0) 2048 (w32 j_0) fun x_3 => if (w32 x_1) = (w32 x_3) then rd_ σ (kA_y this_0) 2048 (w32 i_0) fun x_6 => rd_ σ (kA_y this_0) 2048 (w32 j_0) fun x_8 => if (w32 x_6) = (w32 x_8) then some true else some false else some false) fun x_14 => some x_14
noncomputable def fJ_isOfOnePlace (σ : SG) (shape_0 : Nat) (from_0 : Int) (length_0 : Int) : Option Bool :=
  bx_ (whl_ (S := Int) (R := (Int) ⊕ _) (fun i_1 => if (w32 i_1) < (w32 length_0) then bd_ (fA_areLike σ shape_0 from_0 (from_0 + i_1)) fun x_11 => if x_11 = true then some (.inl (i_1 + 1)) else some (.inr (.inr false)) else some (.inr (.inl i_1))) 1) fun i_15 => some (decide (0 < (w32 length_0)))
noncomputable def fJ_holesFault (σ : SG) (part_0 : Int) : Option (Int × SG) :=
  bd_ (fJ_isEmpty σ part_0) fun x_2 => if x_2 = true then some (0, σ) else rd_ σ kJ_partBegin 2048 (w32 part_0) fun x_4 => bx_ (whl_ (S := Int × SG) (R := (Int × SG) ⊕ _) (fun (hole_6, σ_7) => rd_ σ_7 kJ_partEnd 2048 (w32 part_0) fun x_15 => if (w32 hole_6) < (w32 x_15) then bd_ (fJ_liesIn σ_7 hole_6 x_4) fun x_19 => if x_19 = true then some (.inl ((hole_6 + 1), σ_7)) else rd_ σ_7 kJ_ringNumber 2048 (w32 hole_6) fun x_22 => bd_ (fJ_tell σ_7 6 part_0 x_22) fun (x_26, σ_25) => some (.inr (.inr (x_26, σ_25))) else some (.inr (.inl (hole_6, σ_7)))) ((x_4 + 1), σ)) fun (hole_28, σ_29) => bx_ (whl_ (S := Int × SG) (R := (Int × SG) ⊕ _) (fun (hole_30, σ_31) => rd_ σ_31 kJ_partEnd 2048 (w32 part_0) fun x_39 => if (w32 hole_30) < (w32 x_39) then bx_ (whl_ (S := Int × SG) (R := (Int × SG) ⊕ _) (fun (other_42, σ_43) => rd_ σ_43 kJ_partEnd 2048 (w32 part_0) fun x_51 => if (w32 other_42) < (w32 x_51) then bd_ (fJ_liesIn σ_43 hole_30 other_42) fun x_75 => if x_75 = true then wa_ σ_43 kJ_place 7 4 part_0 fun σ_77 => rd_ σ_77 kJ_ringNumber 2048 (w32 other_42) fun x_79 => wa_ σ_77 kJ_place 7 5 x_79 fun σ_81 => rd_ σ_81 kJ_ringNumber 2048 (w32 hole_30) fun x_83 => bd_ (fJ_tell σ_81 7 part_0 x_83) fun (x_87, σ_86) => some (.inr (.inr (.inr (.inr (x_87, σ_86))))) else bd_ (fJ_liesIn σ_43 other_42 hole_30) fun x_89 => if x_89 = true then wa_ σ_43 kJ_place 7 4 part_0 fun σ_91 => rd_ σ_91 kJ_ringNumber 2048 (w32 other_42) fun x_93 => wa_ σ_91 kJ_place 7 5 x_93 fun σ_95 => rd_ σ_95 kJ_ringNumber 2048 (w32 hole_30) fun x_97 => bd_ (fJ_tell σ_95 7 part_0 x_97) fun (x_101, σ_100) => some (.inr (.inr (.inr (.inr (x_101, σ_100))))) else some (.inl ((other_42 + 1), σ_43)) else some (.inr (.inl (other_42, σ_43)))) ((hole_30 + 1), σ_31)) fun (other_104, σ_105) => some (.inl ((hole_30 + 1), σ_105)) else some (.inr (.inl (hole_30, σ_31)))) ((x_4 + 1), σ_29)) fun (hole_109, σ_110) => some (0, σ_110)
noncomputable def fJ_passes (σ : SG) (ring_0 : Int) (x_0 : Int) (y_0 : Int) : Option Bool :=
  rd_ σ kJ_ringBegin 2048 (w32 ring_0) fun x_1 => bx_ (whl_ (S := Int) (R := (Int) ⊕ _) (fun k_3 => rd_ σ kJ_ringEnd 2048 (w32 ring_0) fun x_11 => if (w32 k_3) < (w32 x_11) then rd_ σ 46080 2048 (w32 k_3) fun x_14 => rd_ σ 46336 2048 (w32 k_3) fun x_16 => rd_ σ 46592 2048 (w32 k_3) fun x_18 => rd_ σ 46848 2048 (w32 k_3) fun x_20 => if (fQ_isOnSegment x_14 x_16 x_18 x_20 x_0 y_0) = true then some (.inr (.inr true)) else some (.inl (k_3 + 1)) else some (.inr (.inl k_3))) x_1) fun k_25 => some false
noncomputable def fJ_rootOf (σ : SG) (ring_0 : Int) : Option Int :=
  bd_ (whl_ (S := Int × Int) (R := Int × Int) (fun (root_1, step_2) => if (w32 step_2) < (w32 (σ kJ_rings 0)) then rd_ σ kJ_joined 2048 (w32 root_1) fun x_19 => if ¬ (w32 x_19) = (w32 root_1) then rd_ σ kJ_joined 2048 (w32 root_1) fun x_22 => some (.inl (x_22, (step_2 + 1))) else some (.inr (root_1, step_2)) else some (.inr (root_1, step_2))) (ring_0, 0)) fun (root_27, step_28) => some root_27
noncomputable def fE_begins (σ : SG) (this_0 : Nat) (i_0 : Int) (x_0 : Int) (y_0 : Int) : Option Bool :=
  bd_ (rd_ σ (kE_ax this_0) (gsz this_0 : Nat) (w32 i_0) fun x_1 => if (w32 x_1) = (w32 x_0) then rd_ σ (kE_ay this_0) (gsz this_0 : Nat) (w32 i_0) fun x_4 => if (w32 x_4) = (w32 y_0) then some true else some false else some false) fun x_10 => some x_10
noncomputable def fJ_joinsInRound (σ : SG) (part_0 : Int) (ring_0 : Int) (x_0 : Int) (y_0 : Int) : Option (Bool × SG) :=
  rd_ σ kJ_partBegin 2048 (w32 part_0) fun x_1 => rd_ σ kJ_ringBegin 2048 (w32 x_1) fun x_3 => bx_ (whl_ (S := Int) (R := (Int) ⊕ _) (fun k_5 => rd_ σ kJ_ringBegin 2048 (w32 ring_0) fun x_13 => if (w32 k_5) < (w32 x_13) then bd_ (fE_begins σ 179 k_5 x_0 y_0) fun x_17 => if x_17 = true then some (.inr (.inr (false, σ))) else some (.inl (k_5 + 1)) else some (.inr (.inl k_5))) x_3) fun k_21 => rd_ σ kJ_partBegin 2048 (w32 part_0) fun x_22 => bx_ (whl_ (S := Int × SG) (R := (Int × SG) ⊕ _) (fun (other_24, σ_25) => rd_ σ_25 kJ_partEnd 2048 (w32 part_0) fun x_33 => if (w32 other_24) < (w32 x_33) then if (w32 other_24) = (w32 ring_0) then some (.inl ((other_24 + 1), σ_25)) else bd_ (fJ_passes σ_25 other_24 x_0 y_0) fun x_47 => if x_47 = true then bd_ (fJ_rootOf σ_25 ring_0) fun x_50 => bd_ (fJ_rootOf σ_25 other_24) fun x_52 => if (w32 x_50) = (w32 x_52) then some (.inr (.inr (true, σ_25))) else wa_ σ_25 kJ_joined 2048 (w32 x_52) x_50 fun σ_54 => some (.inl ((other_24 + 1), σ_54)) else some (.inl ((other_24 + 1), σ_25)) else some (.inr (.inl (other_24, σ_25)))) (x_22, σ)) fun (other_59, σ_60) => some (false, σ_60)
noncomputable def fJ_isSplit (σ : SG) (part_0 : Int) : Option (Bool × SG) :=
  rd_ σ kJ_partEnd 2048 (w32 part_0) fun x_1 => rd_ σ kJ_partBegin 2048 (w32 part_0) fun x_3 => if (w32 (x_1 - x_3)) < 2 then some (false, σ) else rd_ σ kJ_partBegin 2048 (w32 part_0) fun x_6 => bd_ (whl_ (S := Int × SG) (R := Int × SG) (fun (ring_8, σ_9) => rd_ σ_9 kJ_partEnd 2048 (w32 part_0) fun x_17 => if (w32 ring_8) < (w32 x_17) then wa_ σ_9 kJ_joined 2048 (w32 ring_8) ring_8 fun σ_20 => some (.inl ((ring_8 + 1), σ_20)) else some (.inr (ring_8, σ_9))) (x_6, σ)) fun (ring_24, σ_25) => rd_ σ_25 kJ_partBegin 2048 (w32 part_0) fun x_26 => bx_ (whl_ (S := Int × SG) (R := (Int × SG) ⊕ _) (fun (ring_28, σ_29) => rd_ σ_29 kJ_partEnd 2048 (w32 part_0) fun x_37 => if (w32 ring_28) < (w32 x_37) then rd_ σ_29 kJ_ringBegin 2048 (w32 ring_28) fun x_40 => bx_ (whl_ (S := Int × SG) (R := (Int × SG) ⊕ _) (fun (i_42, σ_43) => rd_ σ_43 kJ_ringEnd 2048 (w32 ring_28) fun x_51 => if (w32 i_42) < (w32 x_51) then rd_ σ_43 46080 2048 (w32 i_42) fun x_54 => rd_ σ_43 46336 2048 (w32 i_42) fun x_56 => bd_ (fJ_joinsInRound σ_43 part_0 ring_28 x_54 x_56) fun (x_60, σ_59) => if x_60 = true then some (.inr (.inr (.inr (.inr (true, σ_59))))) else some (.inl ((i_42 + 1), σ_59)) else some (.inr (.inl (i_42, σ_43)))) (x_40, σ_29)) fun (i_64, σ_65) => some (.inl ((ring_28 + 1), σ_65)) else some (.inr (.inl (ring_28, σ_29)))) (x_26, σ_25)) fun (ring_69, σ_70) => some (false, σ_70)
noncomputable def fE_add (σ : SG) (this_0 : Nat) (shape_0 : Nat) (from_0 : Int) (to_0 : Int) (itsMark_0 : Int) : Option (Bool × SG) :=
  if (w32 (gsz this_0 : Nat)) ≤ (w32 (σ (kE_size this_0) 0)) then some (false, σ) else rd_ σ (kA_x shape_0) 2048 (w32 from_0) fun x_2 => wa_ σ (kE_ax this_0) (gsz this_0 : Nat) (w32 (σ (kE_size this_0) 0)) x_2 fun σ_4 => rd_ σ_4 (kA_y shape_0) 2048 (w32 from_0) fun x_6 => wa_ σ_4 (kE_ay this_0) (gsz this_0 : Nat) (w32 (σ_4 (kE_size this_0) 0)) x_6 fun σ_8 => rd_ σ_8 (kA_x shape_0) 2048 (w32 to_0) fun x_10 => wa_ σ_8 (kE_bx this_0) (gsz this_0 : Nat) (w32 (σ_8 (kE_size this_0) 0)) x_10 fun σ_12 => rd_ σ_12 (kA_y shape_0) 2048 (w32 to_0) fun x_14 => wa_ σ_12 (kE_by this_0) (gsz this_0 : Nat) (w32 (σ_12 (kE_size this_0) 0)) x_14 fun σ_16 => wa_ σ_16 (kE_mark this_0) (gsz this_0 : Nat) (w32 (σ_16 (kE_size this_0) 0)) itsMark_0 fun σ_18 => wf_ σ_18 (kE_size this_0) ((σ_18 (kE_size this_0) 0) + 1) fun σ_20 => some (true, σ_20)
noncomputable def fA_rowLength (σ : SG) (this_0 : Nat) (at_0 : Int) (row_0 : Int) : Option Int :=
  bd_ (rd_ σ (kA_plan this_0) 2048 (w32 at_0) fun x_1 => if (w32 x_1) = 3 then some ((at_0 + 2) + row_0) else some (at_0 + 1)) fun x_6 => bd_ (if (w32 x_6) < (w32 (σ (kA_plans this_0) 0)) then rd_ σ (kA_plan this_0) 2048 (w32 x_6) fun x_10 => some x_10 else some 0) fun x_14 => some x_14
noncomputable def fA_rows (σ : SG) (this_0 : Nat) (at_0 : Int) : Option Int :=
  rd_ σ (kA_plan this_0) 2048 (w32 at_0) fun x_1 => if (w32 x_1) = 3 then rd_ σ (kA_plan this_0) 2048 (w32 (at_0 + 1)) fun x_4 => some x_4 else bd_ (rd_ σ (kA_plan this_0) 2048 (w32 at_0) fun x_6 => if (w32 x_6) < 3 then some 1 else some 0) fun x_11 => some x_11
noncomputable def fJ_layOut (σ : SG) (shape_0 : Nat) (at_0 : Int) (begin_0 : Int) (part_0 : Int) : Option SG :=
  wa_ σ kJ_partBegin 2048 (w32 part_0) (σ kJ_rings 0) fun σ_1 => bd_ (whl_ (S := Int × Int × SG) (R := Int × Int × SG) (fun (from_3, ring_4, σ_5) => bd_ (fA_rows σ_5 shape_0 at_0) fun x_22 => if (w32 ring_4) < (w32 x_22) then if (w32 (σ_5 kJ_rings 0)) < 2048 then bd_ (fA_rowLength σ_5 shape_0 at_0 ring_4) fun x_26 => wa_ σ_5 kJ_ringPart 2048 (w32 (σ_5 kJ_rings 0)) part_0 fun σ_27 => wa_ σ_27 kJ_ringNumber 2048 (w32 (σ_27 kJ_rings 0)) ring_4 fun σ_29 => wa_ σ_29 kJ_ringBegin 2048 (w32 (σ_29 kJ_rings 0)) (σ_29 (kE_size 179) 0) fun σ_31 => bd_ (whl_ (S := Int × SG) (R := Int × SG) (fun (i_33, σ_34) => if ((w32 (i_33 + 1)) < (w32 x_26)) ∧ ((w32 (σ_34 (kE_size 179) 0)) < 2048) then bd_ (bd_ (fA_areLike σ_34 shape_0 (from_3 + i_33) ((from_3 + i_33) + 1)) fun x_47 => if x_47 = true then some σ_34 else wa_ σ_34 kJ_number 2048 (w32 (σ_34 (kE_size 179) 0)) i_33 fun σ_50 => bd_ (fE_add σ_50 179 shape_0 (from_3 + i_33) ((from_3 + i_33) + 1) (σ_50 kJ_rings 0)) fun (x_54, σ_53) => some σ_53) fun σ_56 => some (.inl ((i_33 + 1), σ_56)) else some (.inr (i_33, σ_34))) (0, σ_31)) fun (i_67, σ_68) => wa_ σ_68 kJ_ringEnd 2048 (w32 (σ_68 kJ_rings 0)) (σ_68 (kE_size 179) 0) fun σ_69 => wf_ σ_69 kJ_rings ((σ_69 kJ_rings 0) + 1) fun σ_71 => some (.inl ((from_3 + x_26), (ring_4 + 1), σ_71)) else some (.inr (from_3, ring_4, σ_5)) else some (.inr (from_3, ring_4, σ_5))) (begin_0, 0, σ_1)) fun (from_76, ring_77, σ_78) => wa_ σ_78 kJ_partEnd 2048 (w32 part_0) (σ_78 kJ_rings 0) fun σ_79 => some σ_79
noncomputable def fJ_nextOf (σ : SG) (i_0 : Int) : Option Int :=
  rd_ σ 47104 2048 (w32 i_0) fun x_1 => bd_ (rd_ σ kJ_ringEnd 2048 (w32 x_1) fun x_3 => if (w32 (i_0 + 1)) < (w32 x_3) then some (i_0 + 1) else rd_ σ kJ_ringBegin 2048 (w32 x_1) fun x_7 => some x_7) fun x_10 => some x_10
noncomputable def fE_ends (σ : SG) (this_0 : Nat) (i_0 : Int) (x_0 : Int) (y_0 : Int) : Option Bool :=
  bd_ (rd_ σ (kE_bx this_0) (gsz this_0 : Nat) (w32 i_0) fun x_1 => if (w32 x_1) = (w32 x_0) then rd_ σ (kE_by this_0) (gsz this_0 : Nat) (w32 i_0) fun x_4 => if (w32 x_4) = (w32 y_0) then some true else some false else some false) fun x_10 => some x_10
noncomputable def fJ_leadsOnTo (σ : SG) (i_0 : Int) (j_0 : Int) : Option Bool :=
  bd_ (bd_ (fJ_nextOf σ i_0) fun x_2 => if (w32 x_2) = (w32 j_0) then bd_ (fE_ends σ 179 i_0 (σ (kE_placeX 179) 0) (σ (kE_placeY 179) 0)) fun x_5 => if x_5 = true then bd_ (fE_begins σ 179 j_0 (σ (kE_placeX 179) 0) (σ (kE_placeY 179) 0)) fun x_8 => if x_8 = true then some true else some false else some false else some false) fun x_14 => some x_14
noncomputable def fJ_isLeft (σ : SG) (i_0 : Int) (on_0 : Int) (x_0 : Int) (y_0 : Int) : Option Bool :=
  rd_ σ 46592 2048 (w32 on_0) fun x_1 => rd_ σ 46848 2048 (w32 on_0) fun x_3 => rd_ σ 46080 2048 (w32 i_0) fun x_5 => rd_ σ 46336 2048 (w32 i_0) fun x_7 => lt_ (fQ_turnOf (w32 (σ (kE_placeX 179) 0)) (w32 (σ (kE_placeY 179) 0)) (w32 x_1) (w32 x_3) (w32 x_0) (w32 y_0)) fun x_9 => lt_ (fQ_turnOf (w32 (σ (kE_placeX 179) 0)) (w32 (σ (kE_placeY 179) 0)) (w32 x_5) (w32 x_7) (w32 x_0) (w32 y_0)) fun x_10 => lt_ (fQ_turnOf (w32 (σ (kE_placeX 179) 0)) (w32 (σ (kE_placeY 179) 0)) (w32 x_1) (w32 x_3) (w32 x_5) (w32 x_7)) fun x_11 => if 0 < (w32 x_11) then some (decide ((0 < (w32 x_9)) ∧ ((w32 x_10) < 0))) else if (w32 x_11) < 0 then some (decide ((0 < (w32 x_9)) ∨ ((w32 x_10) < 0))) else lt_ (decide (((((decide ((w32 (σ (kE_placeX 179) 0)) < (w32 x_1))) = (decide ((w32 (σ (kE_placeX 179) 0)) < (w32 x_5)))) ∧ ((decide ((w32 x_1) < (w32 (σ (kE_placeX 179) 0)))) = (decide ((w32 x_5) < (w32 (σ (kE_placeX 179) 0)))))) ∧ ((decide ((w32 (σ (kE_placeY 179) 0)) < (w32 x_3))) = (decide ((w32 (σ (kE_placeY 179) 0)) < (w32 x_7))))) ∧ ((decide ((w32 x_3) < (w32 (σ (kE_placeY 179) 0)))) = (decide ((w32 x_7) < (w32 (σ (kE_placeY 179) 0))))))) fun x_21 => some (decide ((¬ (x_21 = true)) ∧ (0 < (w32 x_9))))
noncomputable def fJ_ringsCrossBehind (σ : SG) (i_0 : Int) (j_0 : Int) : Option Bool :=
  bd_ (fE_begins σ 179 i_0 (σ (kE_placeX 179) 0) (σ (kE_placeY 179) 0)) fun x_11 => if x_11 = true then some false else bd_ (fE_begins σ 179 j_0 (σ (kE_placeX 179) 0) (σ (kE_placeY 179) 0)) fun x_14 => if x_14 = true then some false else bd_ (bd_ (fE_ends σ 179 i_0 (σ (kE_placeX 179) 0) (σ (kE_placeY 179) 0)) fun x_17 => if x_17 = true then bd_ (fJ_nextOf σ i_0) fun x_20 => some x_20 else some i_0) fun x_23 => bd_ (bd_ (fE_ends σ 179 j_0 (σ (kE_placeX 179) 0) (σ (kE_placeY 179) 0)) fun x_25 => if x_25 = true then bd_ (fJ_nextOf σ j_0) fun x_28 => some x_28 else some j_0) fun x_31 => bd_ (rd_ σ 46592 2048 (w32 x_31) fun x_32 => rd_ σ 46848 2048 (w32 x_31) fun x_34 => bd_ (fJ_isLeft σ i_0 x_23 x_32 x_34) fun x_37 => rd_ σ 46080 2048 (w32 j_0) fun x_38 => rd_ σ 46336 2048 (w32 j_0) fun x_40 => bd_ (fJ_isLeft σ i_0 x_23 x_38 x_40) fun x_43 => if ¬ x_37 = x_43 then some true else some false) fun x_47 => some x_47
noncomputable def fE_highX (σ : SG) (this_0 : Nat) (i_0 : Int) : Option Int :=
  rd_ σ (kE_ax this_0) (gsz this_0 : Nat) (w32 i_0) fun x_1 => rd_ σ (kE_bx this_0) (gsz this_0 : Nat) (w32 i_0) fun x_3 => some (q_mxi x_1 x_3)
noncomputable def fE_highY (σ : SG) (this_0 : Nat) (i_0 : Int) : Option Int :=
  rd_ σ (kE_ay this_0) (gsz this_0 : Nat) (w32 i_0) fun x_1 => rd_ σ (kE_by this_0) (gsz this_0 : Nat) (w32 i_0) fun x_3 => some (q_mxi x_1 x_3)
noncomputable def fE_lowX (σ : SG) (this_0 : Nat) (i_0 : Int) : Option Int :=
  rd_ σ (kE_ax this_0) (gsz this_0 : Nat) (w32 i_0) fun x_1 => rd_ σ (kE_bx this_0) (gsz this_0 : Nat) (w32 i_0) fun x_3 => some (q_mni x_1 x_3)
noncomputable def fE_lowY (σ : SG) (this_0 : Nat) (i_0 : Int) : Option Int :=
  rd_ σ (kE_ay this_0) (gsz this_0 : Nat) (w32 i_0) fun x_1 => rd_ σ (kE_by this_0) (gsz this_0 : Nat) (w32 i_0) fun x_3 => some (q_mni x_1 x_3)
noncomputable def fE_areApart (σ : SG) (this_0 : Nat) (i_0 : Int) (j_0 : Int) : Option Bool :=
  bd_ (bd_ (fE_lowX σ this_0 i_0) fun x_2 => bd_ (fE_highX σ this_0 j_0) fun x_4 => if (w32 x_4) < (w32 x_2) then some true else bd_ (fE_lowX σ this_0 j_0) fun x_8 => bd_ (fE_highX σ this_0 i_0) fun x_10 => if (w32 x_10) < (w32 x_8) then some true else bd_ (fE_lowY σ this_0 i_0) fun x_14 => bd_ (fE_highY σ this_0 j_0) fun x_16 => if (w32 x_16) < (w32 x_14) then some true else bd_ (fE_lowY σ this_0 j_0) fun x_20 => bd_ (fE_highY σ this_0 i_0) fun x_22 => if (w32 x_22) < (w32 x_20) then some true else some false) fun x_26 => some x_26
noncomputable def fE_touchAtEnd (σ : SG) (this_0 : Nat) (i_0 : Int) (atBegin_0 : Bool) : Option (Int × SG) :=
  bd_ (if atBegin_0 = true then rd_ σ (kE_ax this_0) (gsz this_0 : Nat) (w32 i_0) fun x_6 => some x_6 else rd_ σ (kE_bx this_0) (gsz this_0 : Nat) (w32 i_0) fun x_9 => some x_9) fun x_12 => wf_ σ (kE_placeX this_0) x_12 fun σ_13 => bd_ (if atBegin_0 = true then rd_ σ_13 (kE_ay this_0) (gsz this_0 : Nat) (w32 i_0) fun x_19 => some x_19 else rd_ σ_13 (kE_by this_0) (gsz this_0 : Nat) (w32 i_0) fun x_22 => some x_22) fun x_25 => wf_ σ_13 (kE_placeY this_0) x_25 fun σ_26 => some (2, σ_26)
noncomputable def fE_meetOnOneLine (σ : SG) (this_0 : Nat) (i_0 : Int) (j_0 : Int) : Option (Int × SG) :=
  bd_ (rd_ σ (kE_ax this_0) (gsz this_0 : Nat) (w32 i_0) fun x_1 => rd_ σ (kE_bx this_0) (gsz this_0 : Nat) (w32 i_0) fun x_3 => if (w32 x_1) = (w32 x_3) then some true else some false) fun x_8 => bd_ (if x_8 = true then bd_ (fE_lowY σ this_0 i_0) fun x_19 => bd_ (fE_lowY σ this_0 j_0) fun x_21 => some (q_mxi x_19 x_21) else bd_ (fE_lowX σ this_0 i_0) fun x_24 => bd_ (fE_lowX σ this_0 j_0) fun x_26 => some (q_mxi x_24 x_26)) fun x_28 => bd_ (if x_8 = true then bd_ (fE_highY σ this_0 i_0) fun x_39 => bd_ (fE_highY σ this_0 j_0) fun x_41 => some (q_mni x_39 x_41) else bd_ (fE_highX σ this_0 i_0) fun x_44 => bd_ (fE_highX σ this_0 j_0) fun x_46 => some (q_mni x_44 x_46)) fun x_48 => if (w32 x_48) < (w32 x_28) then some (0, σ) else bd_ (if (w32 x_28) < (w32 x_48) then some (3, σ) else bd_ (bd_ (if x_8 = true then rd_ σ (kE_ay this_0) (gsz this_0 : Nat) (w32 i_0) fun x_84 => some x_84 else rd_ σ (kE_ax this_0) (gsz this_0 : Nat) (w32 i_0) fun x_87 => some x_87) fun x_90 => if (w32 x_90) = (w32 x_28) then some true else some false) fun x_98 => bd_ (fE_touchAtEnd σ this_0 i_0 x_98) fun (x_101, σ_100) => some (x_101, σ_100)) fun (x_107, σ_108) => some (x_107, σ_108)
noncomputable def fE_meet (σ : SG) (this_0 : Nat) (i_0 : Int) (j_0 : Int) : Option (Int × SG) :=
  bd_ (fE_areApart σ this_0 i_0 j_0) fun x_2 => if x_2 = true then some (0, σ) else rd_ σ (kE_ax this_0) (gsz this_0 : Nat) (w32 j_0) fun x_4 => rd_ σ (kE_ay this_0) (gsz this_0 : Nat) (w32 j_0) fun x_6 => bd_ (fE_turn σ this_0 i_0 x_4 x_6) fun x_9 => rd_ σ (kE_bx this_0) (gsz this_0 : Nat) (w32 j_0) fun x_10 => rd_ σ (kE_by this_0) (gsz this_0 : Nat) (w32 j_0) fun x_12 => bd_ (fE_turn σ this_0 i_0 x_10 x_12) fun x_15 => if ((w32 x_9) = 0) ∧ ((w32 x_15) = 0) then bd_ (fE_meetOnOneLine σ this_0 i_0 j_0) fun (x_18, σ_17) => some (x_18, σ_17) else if 0 < (w32 (x_9 * x_15)) then some (0, σ) else rd_ σ (kE_ax this_0) (gsz this_0 : Nat) (w32 i_0) fun x_20 => rd_ σ (kE_ay this_0) (gsz this_0 : Nat) (w32 i_0) fun x_22 => bd_ (fE_turn σ this_0 j_0 x_20 x_22) fun x_25 => rd_ σ (kE_bx this_0) (gsz this_0 : Nat) (w32 i_0) fun x_26 => rd_ σ (kE_by this_0) (gsz this_0 : Nat) (w32 i_0) fun x_28 => bd_ (fE_turn σ this_0 j_0 x_26 x_28) fun x_31 => if 0 < (w32 (x_25 * x_31)) then some (0, σ) else if ((w32 (x_9 * x_15)) < 0) ∧ ((w32 (x_25 * x_31)) < 0) then some (1, σ) else if ((w32 x_9) = 0) ∨ ((w32 x_15) = 0) then bd_ (fE_touchAtEnd σ this_0 j_0 (decide ((w32 x_9) = 0))) fun (x_36, σ_35) => some (x_36, σ_35) else bd_ (fE_touchAtEnd σ this_0 i_0 (decide ((w32 x_25) = 0))) fun (x_41, σ_40) => some (x_41, σ_40)
noncomputable def fJ_pairFault (σ : SG) (i_0 : Int) (j_0 : Int) : Option (Int × SG) :=
  bd_ (fE_meet σ 179 i_0 j_0) fun (x_3, σ_2) => if (w32 x_3) = 0 then some (0, σ_2) else if (w32 x_3) = 3 then some (3, σ_2) else if (w32 x_3) = 1 then some (4, σ_2) else rd_ σ_2 47104 2048 (w32 i_0) fun x_7 => rd_ σ_2 47104 2048 (w32 j_0) fun x_9 => if ¬ (w32 x_7) = (w32 x_9) then bd_ (bd_ (fJ_ringsCrossBehind σ_2 i_0 j_0) fun x_13 => if x_13 = true then some 4 else some 0) fun x_17 => some (x_17, σ_2) else bd_ (bd_ (fJ_leadsOnTo σ_2 i_0 j_0) fun x_33 => if x_33 = true then some 0 else bd_ (fJ_leadsOnTo σ_2 j_0 i_0) fun x_37 => if x_37 = true then some 0 else some 5) fun x_41 => some (x_41, σ_2)
