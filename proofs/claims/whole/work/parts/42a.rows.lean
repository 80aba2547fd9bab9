theorem dX11_layOnTape_0 : decode cX11_layOnTape 0 = .ok (.bipush 24, 2) := by decide +kernel
theorem dX11_layOnTape_2 : decode cX11_layOnTape 2 = .ok (.istore_n 2, 1) := by decide +kernel
theorem dX11_layOnTape_3 : decode cX11_layOnTape 3 = .ok (.iload_n 2, 1) := by decide +kernel
theorem dX11_layOnTape_4 : decode cX11_layOnTape 4 = .ok (.ifCond .lt 41, 3) := by decide +kernel
theorem dX11_layOnTape_7 : decode cX11_layOnTape 7 = .ok (.aload_n 0, 1) := by decide +kernel
theorem dX11_layOnTape_8 : decode cX11_layOnTape 8 = .ok (.getfield 105, 3) := by decide +kernel
theorem dX11_layOnTape_11 : decode cX11_layOnTape 11 = .ok (.ldc 20, 2) := by decide +kernel
theorem dX11_layOnTape_13 : decode cX11_layOnTape 13 = .ok (.if_icmp .ge 32, 3) := by decide +kernel
theorem dX11_layOnTape_16 : decode cX11_layOnTape 16 = .ok (.aload_n 0, 1) := by decide +kernel
theorem dX11_layOnTape_17 : decode cX11_layOnTape 17 = .ok (.getfield 21, 3) := by decide +kernel
theorem dX11_layOnTape_20 : decode cX11_layOnTape 20 = .ok (.aload_n 0, 1) := by decide +kernel
theorem dX11_layOnTape_21 : decode cX11_layOnTape 21 = .ok (.getfield 105, 3) := by decide +kernel
theorem dX11_layOnTape_24 : decode cX11_layOnTape 24 = .ok (.iload_n 1, 1) := by decide +kernel
theorem dX11_layOnTape_25 : decode cX11_layOnTape 25 = .ok (.iload_n 2, 1) := by decide +kernel
theorem dX11_layOnTape_26 : decode cX11_layOnTape 26 = .ok (.iushr, 1) := by decide +kernel
theorem dX11_layOnTape_27 : decode cX11_layOnTape 27 = .ok (.i2b, 1) := by decide +kernel
theorem dX11_layOnTape_28 : decode cX11_layOnTape 28 = .ok (.bastore, 1) := by decide +kernel
theorem dX11_layOnTape_29 : decode cX11_layOnTape 29 = .ok (.aload_n 0, 1) := by decide +kernel
theorem dX11_layOnTape_30 : decode cX11_layOnTape 30 = .ok (.dup, 1) := by decide +kernel
theorem dX11_layOnTape_31 : decode cX11_layOnTape 31 = .ok (.getfield 105, 3) := by decide +kernel
theorem dX11_layOnTape_34 : decode cX11_layOnTape 34 = .ok (.iconst 1, 1) := by decide +kernel
theorem dX11_layOnTape_35 : decode cX11_layOnTape 35 = .ok (.iadd, 1) := by decide +kernel
theorem dX11_layOnTape_36 : decode cX11_layOnTape 36 = .ok (.putfield 105, 3) := by decide +kernel
theorem dX11_layOnTape_39 : decode cX11_layOnTape 39 = .ok (.iinc 2 (-8), 3) := by decide +kernel
theorem dX11_layOnTape_42 : decode cX11_layOnTape 42 = .ok (.goto (-39), 3) := by decide +kernel
theorem dX11_layOnTape_45 : decode cX11_layOnTape 45 = .ok (.return_, 1) := by decide +kernel
abbrev M_X11_layOnTape : MRec := (yX11_layOnTape, cX11_layOnTape, 3, none, [])
theorem m_X11_layOnTape : en_M M_X11_layOnTape 1 := ⟨t_712, t_1, ⟨by decide +kernel, by decide +kernel⟩, by decide +kernel, by decide +kernel, by decide +kernel⟩
theorem dX11_feed_0 : decode cX11_feed 0 = .ok (.aload_n 0, 1) := by decide +kernel
theorem dX11_feed_1 : decode cX11_feed 1 = .ok (.getfield 105, 3) := by decide +kernel
theorem dX11_feed_4 : decode cX11_feed 4 = .ok (.ldc 109, 2) := by decide +kernel
theorem dX11_feed_6 : decode cX11_feed 6 = .ok (.if_icmp .le 11, 3) := by decide +kernel
theorem dX11_feed_9 : decode cX11_feed 9 = .ok (.new 110, 3) := by decide +kernel
theorem dX11_feed_12 : decode cX11_feed 12 = .ok (.dup, 1) := by decide +kernel
theorem dX11_feed_13 : decode cX11_feed 13 = .ok (.invokespecial 112, 3) := by decide +kernel
theorem dX11_feed_16 : decode cX11_feed 16 = .ok (.athrow, 1) := by decide +kernel
theorem dX11_feed_17 : decode cX11_feed 17 = .ok (.aload_n 0, 1) := by decide +kernel
theorem dX11_feed_18 : decode cX11_feed 18 = .ok (.iload_n 1, 1) := by decide +kernel
theorem dX11_feed_19 : decode cX11_feed 19 = .ok (.invokevirtual 113, 3) := by decide +kernel
theorem dX11_feed_22 : decode cX11_feed 22 = .ok (.aload_n 0, 1) := by decide +kernel
theorem dX11_feed_23 : decode cX11_feed 23 = .ok (.iload_n 2, 1) := by decide +kernel
theorem dX11_feed_24 : decode cX11_feed 24 = .ok (.invokevirtual 113, 3) := by decide +kernel
theorem dX11_feed_27 : decode cX11_feed 27 = .ok (.aload_n 0, 1) := by decide +kernel
theorem dX11_feed_28 : decode cX11_feed 28 = .ok (.iload_n 3, 1) := by decide +kernel
theorem dX11_feed_29 : decode cX11_feed 29 = .ok (.invokevirtual 113, 3) := by decide +kernel
theorem dX11_feed_32 : decode cX11_feed 32 = .ok (.aload_n 0, 1) := by decide +kernel
theorem dX11_feed_33 : decode cX11_feed 33 = .ok (.iload 4, 2) := by decide +kernel
theorem dX11_feed_35 : decode cX11_feed 35 = .ok (.invokevirtual 113, 3) := by decide +kernel
theorem dX11_feed_38 : decode cX11_feed 38 = .ok (.aload_n 0, 1) := by decide +kernel
theorem dX11_feed_39 : decode cX11_feed 39 = .ok (.iload 5, 2) := by decide +kernel
theorem dX11_feed_41 : decode cX11_feed 41 = .ok (.invokevirtual 113, 3) := by decide +kernel
theorem dX11_feed_44 : decode cX11_feed 44 = .ok (.aload_n 0, 1) := by decide +kernel
theorem dX11_feed_45 : decode cX11_feed 45 = .ok (.getfield 105, 3) := by decide +kernel
theorem dX11_feed_48 : decode cX11_feed 48 = .ok (.ireturn, 1) := by decide +kernel
abbrev M_X11_feed : MRec := (yX11_feed, cX11_feed, 6, (some Jvm.ClassFile.FieldType.int), [])
theorem m_X11_feed : en_M M_X11_feed 5 := ⟨t_641, t_1, ⟨by decide +kernel, by decide +kernel⟩, by decide +kernel, by decide +kernel, by decide +kernel⟩
theorem dX11_end_0 : decode cX11_end 0 = .ok (.iload_n 1, 1) := by decide +kernel
theorem dX11_end_1 : decode cX11_end 1 = .ok (.ifCond .lt 9, 3) := by decide +kernel
theorem dX11_end_4 : decode cX11_end 4 = .ok (.iload_n 1, 1) := by decide +kernel
theorem dX11_end_5 : decode cX11_end 5 = .ok (.bipush 20, 2) := by decide +kernel
theorem dX11_end_7 : decode cX11_end 7 = .ok (.if_icmp .le 11, 3) := by decide +kernel
theorem dX11_end_10 : decode cX11_end 10 = .ok (.new 116, 3) := by decide +kernel
theorem dX11_end_13 : decode cX11_end 13 = .ok (.dup, 1) := by decide +kernel
theorem dX11_end_14 : decode cX11_end 14 = .ok (.invokespecial 118, 3) := by decide +kernel
theorem dX11_end_17 : decode cX11_end 17 = .ok (.athrow, 1) := by decide +kernel
theorem dX11_end_18 : decode cX11_end 18 = .ok (.aload_n 0, 1) := by decide +kernel
theorem dX11_end_19 : decode cX11_end 19 = .ok (.getfield 105, 3) := by decide +kernel
theorem dX11_end_22 : decode cX11_end 22 = .ok (.bipush 20, 2) := by decide +kernel
theorem dX11_end_24 : decode cX11_end 24 = .ok (.if_icmp .ge 11, 3) := by decide +kernel
theorem dX11_end_27 : decode cX11_end 27 = .ok (.new 110, 3) := by decide +kernel
theorem dX11_end_30 : decode cX11_end 30 = .ok (.dup, 1) := by decide +kernel
theorem dX11_end_31 : decode cX11_end 31 = .ok (.invokespecial 112, 3) := by decide +kernel
theorem dX11_end_34 : decode cX11_end 34 = .ok (.athrow, 1) := by decide +kernel
theorem dX11_end_35 : decode cX11_end 35 = .ok (.aload_n 0, 1) := by decide +kernel
theorem dX11_end_36 : decode cX11_end 36 = .ok (.dup, 1) := by decide +kernel
theorem dX11_end_37 : decode cX11_end 37 = .ok (.getfield 105, 3) := by decide +kernel
theorem dX11_end_40 : decode cX11_end 40 = .ok (.bipush 20, 2) := by decide +kernel
theorem dX11_end_42 : decode cX11_end 42 = .ok (.iload_n 1, 1) := by decide +kernel
theorem dX11_end_43 : decode cX11_end 43 = .ok (.isub, 1) := by decide +kernel
theorem dX11_end_44 : decode cX11_end 44 = .ok (.isub, 1) := by decide +kernel
theorem dX11_end_45 : decode cX11_end 45 = .ok (.putfield 105, 3) := by decide +kernel
theorem dX11_end_48 : decode cX11_end 48 = .ok (.aload_n 0, 1) := by decide +kernel
theorem dX11_end_49 : decode cX11_end 49 = .ok (.getfield 105, 3) := by decide +kernel
theorem dX11_end_52 : decode cX11_end 52 = .ok (.ireturn, 1) := by decide +kernel
abbrev M_X11_end : MRec := (yX11_end, cX11_end, 2, (some Jvm.ClassFile.FieldType.int), [])
theorem m_X11_end : en_M M_X11_end 1 := ⟨t_720, t_1, ⟨by decide +kernel, by decide +kernel⟩, by decide +kernel, by decide +kernel, by decide +kernel⟩
theorem dX11_again_0 : decode cX11_again 0 = .ok (.aload_n 0, 1) := by decide +kernel
theorem dX11_again_1 : decode cX11_again 1 = .ok (.aload_n 0, 1) := by decide +kernel
theorem dX11_again_2 : decode cX11_again 2 = .ok (.getfield 46, 3) := by decide +kernel
theorem dX11_again_5 : decode cX11_again 5 = .ok (.getfield 119, 3) := by decide +kernel
theorem dX11_again_8 : decode cX11_again 8 = .ok (.ldc 20, 2) := by decide +kernel
theorem dX11_again_10 : decode cX11_again 10 = .ok (.invokestatic 122, 3) := by decide +kernel
theorem dX11_again_13 : decode cX11_again 13 = .ok (.putfield 105, 3) := by decide +kernel
theorem dX11_again_16 : decode cX11_again 16 = .ok (.aload_n 0, 1) := by decide +kernel
theorem dX11_again_17 : decode cX11_again 17 = .ok (.getfield 46, 3) := by decide +kernel
theorem dX11_again_20 : decode cX11_again 20 = .ok (.getfield 128, 3) := by decide +kernel
theorem dX11_again_23 : decode cX11_again 23 = .ok (.iconst 0, 1) := by decide +kernel
theorem dX11_again_24 : decode cX11_again 24 = .ok (.aload_n 0, 1) := by decide +kernel
theorem dX11_again_25 : decode cX11_again 25 = .ok (.getfield 21, 3) := by decide +kernel
theorem dX11_again_28 : decode cX11_again 28 = .ok (.iconst 0, 1) := by decide +kernel
theorem dX11_again_29 : decode cX11_again 29 = .ok (.aload_n 0, 1) := by decide +kernel
theorem dX11_again_30 : decode cX11_again 30 = .ok (.getfield 105, 3) := by decide +kernel
theorem dX11_again_33 : decode cX11_again 33 = .ok (.invokestatic 131, 3) := by decide +kernel
theorem dX11_again_36 : decode cX11_again 36 = .ok (.aload_n 0, 1) := by decide +kernel
theorem dX11_again_37 : decode cX11_again 37 = .ok (.getfield 105, 3) := by decide +kernel
theorem dX11_again_40 : decode cX11_again 40 = .ok (.ireturn, 1) := by decide +kernel
abbrev M_X11_again : MRec := (yX11_again, cX11_again, 1, (some Jvm.ClassFile.FieldType.int), [])
theorem m_X11_again : en_M M_X11_again 0 := ⟨t_624, t_1, ⟨by decide +kernel, by decide +kernel⟩, by decide +kernel, by decide +kernel, by decide +kernel⟩
theorem dX11_byteAt_0 : decode cX11_byteAt 0 = .ok (.iload_n 1, 1) := by decide +kernel
theorem dX11_byteAt_1 : decode cX11_byteAt 1 = .ok (.ifCond .lt 14, 3) := by decide +kernel
theorem dX11_byteAt_4 : decode cX11_byteAt 4 = .ok (.iload_n 1, 1) := by decide +kernel
theorem dX11_byteAt_5 : decode cX11_byteAt 5 = .ok (.aload_n 0, 1) := by decide +kernel
theorem dX11_byteAt_6 : decode cX11_byteAt 6 = .ok (.getfield 46, 3) := by decide +kernel
theorem dX11_byteAt_9 : decode cX11_byteAt 9 = .ok (.getfield 119, 3) := by decide +kernel
theorem dX11_byteAt_12 : decode cX11_byteAt 12 = .ok (.if_icmp .lt 11, 3) := by decide +kernel
theorem dX11_byteAt_15 : decode cX11_byteAt 15 = .ok (.new 137, 3) := by decide +kernel
theorem dX11_byteAt_18 : decode cX11_byteAt 18 = .ok (.dup, 1) := by decide +kernel
theorem dX11_byteAt_19 : decode cX11_byteAt 19 = .ok (.invokespecial 139, 3) := by decide +kernel
theorem dX11_byteAt_22 : decode cX11_byteAt 22 = .ok (.athrow, 1) := by decide +kernel
theorem dX11_byteAt_23 : decode cX11_byteAt 23 = .ok (.aload_n 0, 1) := by decide +kernel
theorem dX11_byteAt_24 : decode cX11_byteAt 24 = .ok (.getfield 46, 3) := by decide +kernel
theorem dX11_byteAt_27 : decode cX11_byteAt 27 = .ok (.getfield 128, 3) := by decide +kernel
theorem dX11_byteAt_30 : decode cX11_byteAt 30 = .ok (.iload_n 1, 1) := by decide +kernel
theorem dX11_byteAt_31 : decode cX11_byteAt 31 = .ok (.baload, 1) := by decide +kernel
theorem dX11_byteAt_32 : decode cX11_byteAt 32 = .ok (.sipush 255, 3) := by decide +kernel
theorem dX11_byteAt_35 : decode cX11_byteAt 35 = .ok (.iand, 1) := by decide +kernel
theorem dX11_byteAt_36 : decode cX11_byteAt 36 = .ok (.ireturn, 1) := by decide +kernel
abbrev M_X11_byteAt : MRec := (yX11_byteAt, cX11_byteAt, 2, (some Jvm.ClassFile.FieldType.int), [])
theorem m_X11_byteAt : en_M M_X11_byteAt 1 := ⟨t_1142, t_1, ⟨by decide +kernel, by decide +kernel⟩, by decide +kernel, by decide +kernel, by decide +kernel⟩
theorem dX6_clear_0 : decode cX6_clear 0 = .ok (.aload_n 0, 1) := by decide +kernel
theorem dX6_clear_1 : decode cX6_clear 1 = .ok (.iconst 0, 1) := by decide +kernel
theorem dX6_clear_2 : decode cX6_clear 2 = .ok (.putfield 21, 3) := by decide +kernel
theorem dX6_clear_5 : decode cX6_clear 5 = .ok (.aload_n 0, 1) := by decide +kernel
theorem dX6_clear_6 : decode cX6_clear 6 = .ok (.iconst 0, 1) := by decide +kernel
theorem dX6_clear_7 : decode cX6_clear 7 = .ok (.putfield 25, 3) := by decide +kernel
theorem dX6_clear_10 : decode cX6_clear 10 = .ok (.return_, 1) := by decide +kernel
abbrev M_X6_clear : MRec := (yX6_clear, cX6_clear, 1, none, [])
theorem m_X6_clear : en_M M_X6_clear 0 := ⟨t_770, t_2, ⟨by decide +kernel, by decide +kernel⟩, by decide +kernel, by decide +kernel, by decide +kernel⟩
theorem dX6_kind_0 : decode cX6_kind 0 = .ok (.aload_n 0, 1) := by decide +kernel
theorem dX6_kind_1 : decode cX6_kind 1 = .ok (.getfield 21, 3) := by decide +kernel
theorem dX6_kind_4 : decode cX6_kind 4 = .ok (.ifCond .le 12, 3) := by decide +kernel
theorem dX6_kind_7 : decode cX6_kind 7 = .ok (.aload_n 0, 1) := by decide +kernel
theorem dX6_kind_8 : decode cX6_kind 8 = .ok (.getfield 11, 3) := by decide +kernel
theorem dX6_kind_11 : decode cX6_kind 11 = .ok (.iconst 0, 1) := by decide +kernel
theorem dX6_kind_12 : decode cX6_kind 12 = .ok (.iaload, 1) := by decide +kernel
theorem dX6_kind_13 : decode cX6_kind 13 = .ok (.goto 4, 3) := by decide +kernel
theorem dX6_kind_16 : decode cX6_kind 16 = .ok (.iconst 0, 1) := by decide +kernel
theorem dX6_kind_17 : decode cX6_kind 17 = .ok (.ireturn, 1) := by decide +kernel
abbrev M_X6_kind : MRec := (yX6_kind, cX6_kind, 1, (some Jvm.ClassFile.FieldType.int), [])
theorem m_X6_kind : en_M M_X6_kind 0 := ⟨t_953, t_2, ⟨by decide +kernel, by decide +kernel⟩, by decide +kernel, by decide +kernel, by decide +kernel⟩
theorem dX11_kindOrFault_0 : decode cX11_kindOrFault 0 = .ok (.aload_n 0, 1) := by decide +kernel
theorem dX11_kindOrFault_1 : decode cX11_kindOrFault 1 = .ok (.iload_n 3, 1) := by decide +kernel
theorem dX11_kindOrFault_2 : decode cX11_kindOrFault 2 = .ok (.putfield 161, 3) := by decide +kernel
theorem dX11_kindOrFault_5 : decode cX11_kindOrFault 5 = .ok (.aload_n 0, 1) := by decide +kernel
theorem dX11_kindOrFault_6 : decode cX11_kindOrFault 6 = .ok (.iload 4, 2) := by decide +kernel
theorem dX11_kindOrFault_8 : decode cX11_kindOrFault 8 = .ok (.putfield 162, 3) := by decide +kernel
theorem dX11_kindOrFault_11 : decode cX11_kindOrFault 11 = .ok (.iload_n 2, 1) := by decide +kernel
theorem dX11_kindOrFault_12 : decode cX11_kindOrFault 12 = .ok (.ifCond .ne 15, 3) := by decide +kernel
theorem dX11_kindOrFault_15 : decode cX11_kindOrFault 15 = .ok (.aload_n 1, 1) := by decide +kernel
theorem dX11_kindOrFault_16 : decode cX11_kindOrFault 16 = .ok (.invokevirtual 165, 3) := by decide +kernel
theorem dX11_kindOrFault_19 : decode cX11_kindOrFault 19 = .ok (.new 116, 3) := by decide +kernel
theorem dX11_kindOrFault_22 : decode cX11_kindOrFault 22 = .ok (.dup, 1) := by decide +kernel
theorem dX11_kindOrFault_23 : decode cX11_kindOrFault 23 = .ok (.invokespecial 118, 3) := by decide +kernel
theorem dX11_kindOrFault_26 : decode cX11_kindOrFault 26 = .ok (.athrow, 1) := by decide +kernel
theorem dX11_kindOrFault_27 : decode cX11_kindOrFault 27 = .ok (.aload_n 1, 1) := by decide +kernel
theorem dX11_kindOrFault_28 : decode cX11_kindOrFault 28 = .ok (.invokevirtual 168, 3) := by decide +kernel
theorem dX11_kindOrFault_31 : decode cX11_kindOrFault 31 = .ok (.ireturn, 1) := by decide +kernel
abbrev M_X11_kindOrFault : MRec := (yX11_kindOrFault, cX11_kindOrFault, 5, (some Jvm.ClassFile.FieldType.int), [])
theorem m_X11_kindOrFault : en_M M_X11_kindOrFault 4 := ⟨t_948, t_1, ⟨by decide +kernel, by decide +kernel⟩, by decide +kernel, by decide +kernel, by decide +kernel⟩
theorem dX11_fault_0 : decode cX11_fault 0 = .ok (.iload_n 1, 1) := by decide +kernel
theorem dX11_fault_1 : decode cX11_fault 1 = .ok (.ifCond .lt 8, 3) := by decide +kernel
theorem dX11_fault_4 : decode cX11_fault 4 = .ok (.iload_n 1, 1) := by decide +kernel
theorem dX11_fault_5 : decode cX11_fault 5 = .ok (.iconst 1, 1) := by decide +kernel
theorem dX11_fault_6 : decode cX11_fault 6 = .ok (.if_icmp .le 11, 3) := by decide +kernel
theorem dX11_fault_9 : decode cX11_fault 9 = .ok (.new 137, 3) := by decide +kernel
theorem dX11_fault_12 : decode cX11_fault 12 = .ok (.dup, 1) := by decide +kernel
theorem dX11_fault_13 : decode cX11_fault 13 = .ok (.invokespecial 139, 3) := by decide +kernel
theorem dX11_fault_16 : decode cX11_fault 16 = .ok (.athrow, 1) := by decide +kernel
theorem dX11_fault_17 : decode cX11_fault 17 = .ok (.iload_n 1, 1) := by decide +kernel
theorem dX11_fault_18 : decode cX11_fault 18 = .ok (.ifCond .ne 10, 3) := by decide +kernel
theorem dX11_fault_21 : decode cX11_fault 21 = .ok (.aload_n 0, 1) := by decide +kernel
theorem dX11_fault_22 : decode cX11_fault 22 = .ok (.getfield 161, 3) := by decide +kernel
theorem dX11_fault_25 : decode cX11_fault 25 = .ok (.goto 7, 3) := by decide +kernel
theorem dX11_fault_28 : decode cX11_fault 28 = .ok (.aload_n 0, 1) := by decide +kernel
theorem dX11_fault_29 : decode cX11_fault 29 = .ok (.getfield 162, 3) := by decide +kernel
theorem dX11_fault_32 : decode cX11_fault 32 = .ok (.ireturn, 1) := by decide +kernel
abbrev M_X11_fault : MRec := (yX11_fault, cX11_fault, 2, (some Jvm.ClassFile.FieldType.int), [])
theorem m_X11_fault : en_M M_X11_fault 1 := ⟨t_1039, t_1, ⟨by decide +kernel, by decide +kernel⟩, by decide +kernel, by decide +kernel, by decide +kernel⟩
theorem dX11_slotNumbered_0 : decode cX11_slotNumbered 0 = .ok (.iload_n 1, 1) := by decide +kernel
theorem dX11_slotNumbered_1 : decode cX11_slotNumbered 1 = .ok (.ifCond .lt 9, 3) := by decide +kernel
theorem dX11_slotNumbered_4 : decode cX11_slotNumbered 4 = .ok (.iload_n 1, 1) := by decide +kernel
theorem dX11_slotNumbered_5 : decode cX11_slotNumbered 5 = .ok (.bipush 32, 2) := by decide +kernel
theorem dX11_slotNumbered_7 : decode cX11_slotNumbered 7 = .ok (.if_icmp .lt 11, 3) := by decide +kernel
theorem dX11_slotNumbered_10 : decode cX11_slotNumbered 10 = .ok (.new 137, 3) := by decide +kernel
theorem dX11_slotNumbered_13 : decode cX11_slotNumbered 13 = .ok (.dup, 1) := by decide +kernel
theorem dX11_slotNumbered_14 : decode cX11_slotNumbered 14 = .ok (.invokespecial 139, 3) := by decide +kernel
theorem dX11_slotNumbered_17 : decode cX11_slotNumbered 17 = .ok (.athrow, 1) := by decide +kernel
theorem dX11_slotNumbered_18 : decode cX11_slotNumbered 18 = .ok (.aload_n 0, 1) := by decide +kernel
theorem dX11_slotNumbered_19 : decode cX11_slotNumbered 19 = .ok (.getfield 11, 3) := by decide +kernel
theorem dX11_slotNumbered_22 : decode cX11_slotNumbered 22 = .ok (.iload_n 1, 1) := by decide +kernel
theorem dX11_slotNumbered_23 : decode cX11_slotNumbered 23 = .ok (.aaload, 1) := by decide +kernel
theorem dX11_slotNumbered_24 : decode cX11_slotNumbered 24 = .ok (.areturn, 1) := by decide +kernel
abbrev M_X11_slotNumbered : MRec := (yX11_slotNumbered, cX11_slotNumbered, 2, (some (Jvm.ClassFile.FieldType.object "ShapeWorkshop$Shape")), [])
theorem m_X11_slotNumbered : en_M M_X11_slotNumbered 1 := ⟨t_747, t_1, ⟨by decide +kernel, by decide +kernel⟩, by decide +kernel, by decide +kernel, by decide +kernel⟩
theorem dX6_isThere_0 : decode cX6_isThere 0 = .ok (.aload_n 0, 1) := by decide +kernel
theorem dX6_isThere_1 : decode cX6_isThere 1 = .ok (.getfield 21, 3) := by decide +kernel
theorem dX6_isThere_4 : decode cX6_isThere 4 = .ok (.ifCond .le 7, 3) := by decide +kernel
theorem dX6_isThere_7 : decode cX6_isThere 7 = .ok (.iconst 1, 1) := by decide +kernel
theorem dX6_isThere_8 : decode cX6_isThere 8 = .ok (.goto 4, 3) := by decide +kernel
theorem dX6_isThere_11 : decode cX6_isThere 11 = .ok (.iconst 0, 1) := by decide +kernel
theorem dX6_isThere_12 : decode cX6_isThere 12 = .ok (.ireturn, 1) := by decide +kernel
abbrev M_X6_isThere : MRec := (yX6_isThere, cX6_isThere, 1, (some Jvm.ClassFile.FieldType.boolean), [])
theorem m_X6_isThere : en_M M_X6_isThere 0 := ⟨t_1053, t_2, ⟨by decide +kernel, by decide +kernel⟩, by decide +kernel, by decide +kernel, by decide +kernel⟩
theorem dX11_mustBeThere_0 : decode cX11_mustBeThere 0 = .ok (.aload_n 0, 1) := by decide +kernel
theorem dX11_mustBeThere_1 : decode cX11_mustBeThere 1 = .ok (.invokevirtual 184, 3) := by decide +kernel
theorem dX11_mustBeThere_4 : decode cX11_mustBeThere 4 = .ok (.ifCond .ne 11, 3) := by decide +kernel
theorem dX11_mustBeThere_7 : decode cX11_mustBeThere 7 = .ok (.new 110, 3) := by decide +kernel
theorem dX11_mustBeThere_10 : decode cX11_mustBeThere 10 = .ok (.dup, 1) := by decide +kernel
theorem dX11_mustBeThere_11 : decode cX11_mustBeThere 11 = .ok (.invokespecial 112, 3) := by decide +kernel
theorem dX11_mustBeThere_14 : decode cX11_mustBeThere 14 = .ok (.athrow, 1) := by decide +kernel
theorem dX11_mustBeThere_15 : decode cX11_mustBeThere 15 = .ok (.return_, 1) := by decide +kernel
abbrev M_X11_mustBeThere : MRec := (yX11_mustBeThere, cX11_mustBeThere, 1, none, [])
theorem m_X11_mustBeThere : en_M M_X11_mustBeThere 1 := ⟨t_1049, t_1, ⟨by decide +kernel, by decide +kernel⟩, by decide +kernel, by decide +kernel, by decide +kernel⟩
theorem dX6_become_0 : decode cX6_become 0 = .ok (.aload_n 0, 1) := by decide +kernel
theorem dX6_become_1 : decode cX6_become 1 = .ok (.aload_n 1, 1) := by decide +kernel
theorem dX6_become_2 : decode cX6_become 2 = .ok (.getfield 21, 3) := by decide +kernel
theorem dX6_become_5 : decode cX6_become 5 = .ok (.putfield 21, 3) := by decide +kernel
theorem dX6_become_8 : decode cX6_become 8 = .ok (.aload_n 0, 1) := by decide +kernel
theorem dX6_become_9 : decode cX6_become 9 = .ok (.aload_n 1, 1) := by decide +kernel
theorem dX6_become_10 : decode cX6_become 10 = .ok (.getfield 25, 3) := by decide +kernel
theorem dX6_become_13 : decode cX6_become 13 = .ok (.putfield 25, 3) := by decide +kernel
theorem dX6_become_16 : decode cX6_become 16 = .ok (.aload_n 1, 1) := by decide +kernel
theorem dX6_become_17 : decode cX6_become 17 = .ok (.getfield 11, 3) := by decide +kernel
theorem dX6_become_20 : decode cX6_become 20 = .ok (.iconst 0, 1) := by decide +kernel
theorem dX6_become_21 : decode cX6_become 21 = .ok (.aload_n 0, 1) := by decide +kernel
theorem dX6_become_22 : decode cX6_become 22 = .ok (.getfield 11, 3) := by decide +kernel
theorem dX6_become_25 : decode cX6_become 25 = .ok (.iconst 0, 1) := by decide +kernel
theorem dX6_become_26 : decode cX6_become 26 = .ok (.aload_n 0, 1) := by decide +kernel
theorem dX6_become_27 : decode cX6_become 27 = .ok (.getfield 21, 3) := by decide +kernel
theorem dX6_become_30 : decode cX6_become 30 = .ok (.invokestatic 28, 3) := by decide +kernel
theorem dX6_become_33 : decode cX6_become 33 = .ok (.aload_n 1, 1) := by decide +kernel
theorem dX6_become_34 : decode cX6_become 34 = .ok (.getfield 15, 3) := by decide +kernel
theorem dX6_become_37 : decode cX6_become 37 = .ok (.iconst 0, 1) := by decide +kernel
theorem dX6_become_38 : decode cX6_become 38 = .ok (.aload_n 0, 1) := by decide +kernel
theorem dX6_become_39 : decode cX6_become 39 = .ok (.getfield 15, 3) := by decide +kernel
theorem dX6_become_42 : decode cX6_become 42 = .ok (.iconst 0, 1) := by decide +kernel
theorem dX6_become_43 : decode cX6_become 43 = .ok (.aload_n 0, 1) := by decide +kernel
theorem dX6_become_44 : decode cX6_become 44 = .ok (.getfield 25, 3) := by decide +kernel
theorem dX6_become_47 : decode cX6_become 47 = .ok (.invokestatic 28, 3) := by decide +kernel
theorem dX6_become_50 : decode cX6_become 50 = .ok (.aload_n 1, 1) := by decide +kernel
theorem dX6_become_51 : decode cX6_become 51 = .ok (.getfield 18, 3) := by decide +kernel
theorem dX6_become_54 : decode cX6_become 54 = .ok (.iconst 0, 1) := by decide +kernel
theorem dX6_become_55 : decode cX6_become 55 = .ok (.aload_n 0, 1) := by decide +kernel
theorem dX6_become_56 : decode cX6_become 56 = .ok (.getfield 18, 3) := by decide +kernel
theorem dX6_become_59 : decode cX6_become 59 = .ok (.iconst 0, 1) := by decide +kernel
theorem dX6_become_60 : decode cX6_become 60 = .ok (.aload_n 0, 1) := by decide +kernel
theorem dX6_become_61 : decode cX6_become 61 = .ok (.getfield 25, 3) := by decide +kernel
theorem dX6_become_64 : decode cX6_become 64 = .ok (.invokestatic 28, 3) := by decide +kernel
theorem dX6_become_67 : decode cX6_become 67 = .ok (.return_, 1) := by decide +kernel
abbrev M_X6_become : MRec := (yX6_become, cX6_become, 2, none, [])
theorem m_X6_become : en_M M_X6_become 1 := ⟨t_1153, t_2, ⟨by decide +kernel, by decide +kernel⟩, by decide +kernel, by decide +kernel, by decide +kernel⟩
theorem dX11_copy_0 : decode cX11_copy 0 = .ok (.aload_n 0, 1) := by decide +kernel
theorem dX11_copy_1 : decode cX11_copy 1 = .ok (.iload_n 1, 1) := by decide +kernel
theorem dX11_copy_2 : decode cX11_copy 2 = .ok (.invokevirtual 140, 3) := by decide +kernel
theorem dX11_copy_5 : decode cX11_copy 5 = .ok (.astore_n 3, 1) := by decide +kernel
theorem dX11_copy_6 : decode cX11_copy 6 = .ok (.aload_n 0, 1) := by decide +kernel
theorem dX11_copy_7 : decode cX11_copy 7 = .ok (.iload_n 2, 1) := by decide +kernel
theorem dX11_copy_8 : decode cX11_copy 8 = .ok (.invokevirtual 140, 3) := by decide +kernel
theorem dX11_copy_11 : decode cX11_copy 11 = .ok (.astore 4, 2) := by decide +kernel
theorem dX11_copy_13 : decode cX11_copy 13 = .ok (.aload_n 3, 1) := by decide +kernel
theorem dX11_copy_14 : decode cX11_copy 14 = .ok (.invokestatic 172, 3) := by decide +kernel
theorem dX11_copy_17 : decode cX11_copy 17 = .ok (.aload 4, 2) := by decide +kernel
theorem dX11_copy_19 : decode cX11_copy 19 = .ok (.aload_n 3, 1) := by decide +kernel
theorem dX11_copy_20 : decode cX11_copy 20 = .ok (.invokevirtual 188, 3) := by decide +kernel
theorem dX11_copy_23 : decode cX11_copy 23 = .ok (.aload 4, 2) := by decide +kernel
theorem dX11_copy_25 : decode cX11_copy 25 = .ok (.invokevirtual 168, 3) := by decide +kernel
theorem dX11_copy_28 : decode cX11_copy 28 = .ok (.ireturn, 1) := by decide +kernel
abbrev M_X11_copy : MRec := (yX11_copy, cX11_copy, 5, (some Jvm.ClassFile.FieldType.int), [])
theorem m_X11_copy : en_M M_X11_copy 2 := ⟨t_1149, t_1, ⟨by decide +kernel, by decide +kernel⟩, by decide +kernel, by decide +kernel, by decide +kernel⟩
theorem dX11_drop_0 : decode cX11_drop 0 = .ok (.aload_n 0, 1) := by decide +kernel
theorem dX11_drop_1 : decode cX11_drop 1 = .ok (.iload_n 1, 1) := by decide +kernel
theorem dX11_drop_2 : decode cX11_drop 2 = .ok (.invokevirtual 140, 3) := by decide +kernel
theorem dX11_drop_5 : decode cX11_drop 5 = .ok (.astore_n 2, 1) := by decide +kernel
theorem dX11_drop_6 : decode cX11_drop 6 = .ok (.aload_n 2, 1) := by decide +kernel
theorem dX11_drop_7 : decode cX11_drop 7 = .ok (.invokevirtual 184, 3) := by decide +kernel
theorem dX11_drop_10 : decode cX11_drop 10 = .ok (.istore_n 3, 1) := by decide +kernel
theorem dX11_drop_11 : decode cX11_drop 11 = .ok (.aload_n 2, 1) := by decide +kernel
theorem dX11_drop_12 : decode cX11_drop 12 = .ok (.invokevirtual 165, 3) := by decide +kernel
theorem dX11_drop_15 : decode cX11_drop 15 = .ok (.iload_n 3, 1) := by decide +kernel
theorem dX11_drop_16 : decode cX11_drop 16 = .ok (.ireturn, 1) := by decide +kernel
abbrev M_X11_drop : MRec := (yX11_drop, cX11_drop, 4, (some Jvm.ClassFile.FieldType.boolean), [])
theorem m_X11_drop : en_M M_X11_drop 1 := ⟨t_1161, t_1, ⟨by decide +kernel, by decide +kernel⟩, by decide +kernel, by decide +kernel, by decide +kernel⟩
theorem dX6_isLike_0 : decode cX6_isLike 0 = .ok (.aload_n 0, 1) := by decide +kernel
theorem dX6_isLike_1 : decode cX6_isLike 1 = .ok (.getfield 21, 3) := by decide +kernel
theorem dX6_isLike_4 : decode cX6_isLike 4 = .ok (.aload_n 1, 1) := by decide +kernel
theorem dX6_isLike_5 : decode cX6_isLike 5 = .ok (.getfield 21, 3) := by decide +kernel
theorem dX6_isLike_8 : decode cX6_isLike 8 = .ok (.if_icmp .ne 14, 3) := by decide +kernel
theorem dX6_isLike_11 : decode cX6_isLike 11 = .ok (.aload_n 0, 1) := by decide +kernel
theorem dX6_isLike_12 : decode cX6_isLike 12 = .ok (.getfield 25, 3) := by decide +kernel
theorem dX6_isLike_15 : decode cX6_isLike 15 = .ok (.aload_n 1, 1) := by decide +kernel
theorem dX6_isLike_16 : decode cX6_isLike 16 = .ok (.getfield 25, 3) := by decide +kernel
theorem dX6_isLike_19 : decode cX6_isLike 19 = .ok (.if_icmp .eq 5, 3) := by decide +kernel
theorem dX6_isLike_22 : decode cX6_isLike 22 = .ok (.iconst 0, 1) := by decide +kernel
theorem dX6_isLike_23 : decode cX6_isLike 23 = .ok (.ireturn, 1) := by decide +kernel
theorem dX6_isLike_24 : decode cX6_isLike 24 = .ok (.iconst 0, 1) := by decide +kernel
theorem dX6_isLike_25 : decode cX6_isLike 25 = .ok (.istore_n 2, 1) := by decide +kernel
theorem dX6_isLike_26 : decode cX6_isLike 26 = .ok (.iload_n 2, 1) := by decide +kernel
theorem dX6_isLike_27 : decode cX6_isLike 27 = .ok (.aload_n 0, 1) := by decide +kernel
theorem dX6_isLike_28 : decode cX6_isLike 28 = .ok (.getfield 21, 3) := by decide +kernel
theorem dX6_isLike_31 : decode cX6_isLike 31 = .ok (.if_icmp .ge 26, 3) := by decide +kernel
theorem dX6_isLike_34 : decode cX6_isLike 34 = .ok (.aload_n 0, 1) := by decide +kernel
theorem dX6_isLike_35 : decode cX6_isLike 35 = .ok (.getfield 11, 3) := by decide +kernel
theorem dX6_isLike_38 : decode cX6_isLike 38 = .ok (.iload_n 2, 1) := by decide +kernel
theorem dX6_isLike_39 : decode cX6_isLike 39 = .ok (.iaload, 1) := by decide +kernel
theorem dX6_isLike_40 : decode cX6_isLike 40 = .ok (.aload_n 1, 1) := by decide +kernel
theorem dX6_isLike_41 : decode cX6_isLike 41 = .ok (.getfield 11, 3) := by decide +kernel
theorem dX6_isLike_44 : decode cX6_isLike 44 = .ok (.iload_n 2, 1) := by decide +kernel
theorem dX6_isLike_45 : decode cX6_isLike 45 = .ok (.iaload, 1) := by decide +kernel
theorem dX6_isLike_46 : decode cX6_isLike 46 = .ok (.if_icmp .eq 5, 3) := by decide +kernel
theorem dX6_isLike_49 : decode cX6_isLike 49 = .ok (.iconst 0, 1) := by decide +kernel
theorem dX6_isLike_50 : decode cX6_isLike 50 = .ok (.ireturn, 1) := by decide +kernel
theorem dX6_isLike_51 : decode cX6_isLike 51 = .ok (.iinc 2 1, 3) := by decide +kernel
theorem dX6_isLike_54 : decode cX6_isLike 54 = .ok (.goto (-28), 3) := by decide +kernel
theorem dX6_isLike_57 : decode cX6_isLike 57 = .ok (.iconst 0, 1) := by decide +kernel
theorem dX6_isLike_58 : decode cX6_isLike 58 = .ok (.istore_n 2, 1) := by decide +kernel
theorem dX6_isLike_59 : decode cX6_isLike 59 = .ok (.iload_n 2, 1) := by decide +kernel
theorem dX6_isLike_60 : decode cX6_isLike 60 = .ok (.aload_n 0, 1) := by decide +kernel
theorem dX6_isLike_61 : decode cX6_isLike 61 = .ok (.getfield 25, 3) := by decide +kernel
theorem dX6_isLike_64 : decode cX6_isLike 64 = .ok (.if_icmp .ge 41, 3) := by decide +kernel
theorem dX6_isLike_67 : decode cX6_isLike 67 = .ok (.aload_n 0, 1) := by decide +kernel
theorem dX6_isLike_68 : decode cX6_isLike 68 = .ok (.getfield 15, 3) := by decide +kernel
theorem dX6_isLike_71 : decode cX6_isLike 71 = .ok (.iload_n 2, 1) := by decide +kernel
theorem dX6_isLike_72 : decode cX6_isLike 72 = .ok (.iaload, 1) := by decide +kernel
theorem dX6_isLike_73 : decode cX6_isLike 73 = .ok (.aload_n 1, 1) := by decide +kernel
theorem dX6_isLike_74 : decode cX6_isLike 74 = .ok (.getfield 15, 3) := by decide +kernel
theorem dX6_isLike_77 : decode cX6_isLike 77 = .ok (.iload_n 2, 1) := by decide +kernel
theorem dX6_isLike_78 : decode cX6_isLike 78 = .ok (.iaload, 1) := by decide +kernel
theorem dX6_isLike_79 : decode cX6_isLike 79 = .ok (.if_icmp .ne 18, 3) := by decide +kernel
theorem dX6_isLike_82 : decode cX6_isLike 82 = .ok (.aload_n 0, 1) := by decide +kernel
theorem dX6_isLike_83 : decode cX6_isLike 83 = .ok (.getfield 18, 3) := by decide +kernel
theorem dX6_isLike_86 : decode cX6_isLike 86 = .ok (.iload_n 2, 1) := by decide +kernel
theorem dX6_isLike_87 : decode cX6_isLike 87 = .ok (.iaload, 1) := by decide +kernel
theorem dX6_isLike_88 : decode cX6_isLike 88 = .ok (.aload_n 1, 1) := by decide +kernel
theorem dX6_isLike_89 : decode cX6_isLike 89 = .ok (.getfield 18, 3) := by decide +kernel
theorem dX6_isLike_92 : decode cX6_isLike 92 = .ok (.iload_n 2, 1) := by decide +kernel
theorem dX6_isLike_93 : decode cX6_isLike 93 = .ok (.iaload, 1) := by decide +kernel
theorem dX6_isLike_94 : decode cX6_isLike 94 = .ok (.if_icmp .eq 5, 3) := by decide +kernel
theorem dX6_isLike_97 : decode cX6_isLike 97 = .ok (.iconst 0, 1) := by decide +kernel
theorem dX6_isLike_98 : decode cX6_isLike 98 = .ok (.ireturn, 1) := by decide +kernel
theorem dX6_isLike_99 : decode cX6_isLike 99 = .ok (.iinc 2 1, 3) := by decide +kernel
theorem dX6_isLike_102 : decode cX6_isLike 102 = .ok (.goto (-43), 3) := by decide +kernel
theorem dX6_isLike_105 : decode cX6_isLike 105 = .ok (.iconst 1, 1) := by decide +kernel
theorem dX6_isLike_106 : decode cX6_isLike 106 = .ok (.ireturn, 1) := by decide +kernel
abbrev M_X6_isLike : MRec := (yX6_isLike, cX6_isLike, 3, (some Jvm.ClassFile.FieldType.boolean), [])
theorem m_X6_isLike : en_M M_X6_isLike 1 := ⟨t_1172, t_2, ⟨by decide +kernel, by decide +kernel⟩, by decide +kernel, by decide +kernel, by decide +kernel⟩
theorem dX11_same_0 : decode cX11_same 0 = .ok (.aload_n 0, 1) := by decide +kernel
theorem dX11_same_1 : decode cX11_same 1 = .ok (.iload_n 1, 1) := by decide +kernel
theorem dX11_same_2 : decode cX11_same 2 = .ok (.invokevirtual 140, 3) := by decide +kernel
theorem dX11_same_5 : decode cX11_same 5 = .ok (.astore_n 3, 1) := by decide +kernel
theorem dX11_same_6 : decode cX11_same 6 = .ok (.aload_n 0, 1) := by decide +kernel
theorem dX11_same_7 : decode cX11_same 7 = .ok (.iload_n 2, 1) := by decide +kernel
theorem dX11_same_8 : decode cX11_same 8 = .ok (.invokevirtual 140, 3) := by decide +kernel
theorem dX11_same_11 : decode cX11_same 11 = .ok (.astore 4, 2) := by decide +kernel
theorem dX11_same_13 : decode cX11_same 13 = .ok (.aload_n 3, 1) := by decide +kernel
theorem dX11_same_14 : decode cX11_same 14 = .ok (.aload 4, 2) := by decide +kernel
theorem dX11_same_16 : decode cX11_same 16 = .ok (.invokevirtual 191, 3) := by decide +kernel
theorem dX11_same_19 : decode cX11_same 19 = .ok (.ireturn, 1) := by decide +kernel
abbrev M_X11_same : MRec := (yX11_same, cX11_same, 5, (some Jvm.ClassFile.FieldType.boolean), [])
theorem m_X11_same : en_M M_X11_same 2 := ⟨t_1168, t_1, ⟨by decide +kernel, by decide +kernel⟩, by decide +kernel, by decide +kernel, by decide +kernel⟩
theorem dX11_plan_0 : decode cX11_plan 0 = .ok (.aload_n 0, 1) := by decide +kernel
theorem dX11_plan_1 : decode cX11_plan 1 = .ok (.iload_n 1, 1) := by decide +kernel
theorem dX11_plan_2 : decode cX11_plan 2 = .ok (.invokevirtual 140, 3) := by decide +kernel
theorem dX11_plan_5 : decode cX11_plan 5 = .ok (.astore_n 3, 1) := by decide +kernel
theorem dX11_plan_6 : decode cX11_plan 6 = .ok (.iload_n 2, 1) := by decide +kernel
theorem dX11_plan_7 : decode cX11_plan 7 = .ok (.ifCond .lt 11, 3) := by decide +kernel
theorem dX11_plan_10 : decode cX11_plan 10 = .ok (.iload_n 2, 1) := by decide +kernel
theorem dX11_plan_11 : decode cX11_plan 11 = .ok (.aload_n 3, 1) := by decide +kernel
theorem dX11_plan_12 : decode cX11_plan 12 = .ok (.getfield 195, 3) := by decide +kernel
theorem dX11_plan_15 : decode cX11_plan 15 = .ok (.if_icmp .lt 11, 3) := by decide +kernel
theorem dX11_plan_18 : decode cX11_plan 18 = .ok (.new 137, 3) := by decide +kernel
theorem dX11_plan_21 : decode cX11_plan 21 = .ok (.dup, 1) := by decide +kernel
theorem dX11_plan_22 : decode cX11_plan 22 = .ok (.invokespecial 139, 3) := by decide +kernel
theorem dX11_plan_25 : decode cX11_plan 25 = .ok (.athrow, 1) := by decide +kernel
theorem dX11_plan_26 : decode cX11_plan 26 = .ok (.aload_n 3, 1) := by decide +kernel
theorem dX11_plan_27 : decode cX11_plan 27 = .ok (.getfield 198, 3) := by decide +kernel
theorem dX11_plan_30 : decode cX11_plan 30 = .ok (.iload_n 2, 1) := by decide +kernel
theorem dX11_plan_31 : decode cX11_plan 31 = .ok (.iaload, 1) := by decide +kernel
theorem dX11_plan_32 : decode cX11_plan 32 = .ok (.ireturn, 1) := by decide +kernel
abbrev M_X11_plan : MRec := (yX11_plan, cX11_plan, 4, (some Jvm.ClassFile.FieldType.int), [])
theorem m_X11_plan : en_M M_X11_plan 2 := ⟨t_2283, t_1, ⟨by decide +kernel, by decide +kernel⟩, by decide +kernel, by decide +kernel, by decide +kernel⟩
theorem dX11_ordinate_0 : decode cX11_ordinate 0 = .ok (.aload_n 0, 1) := by decide +kernel
theorem dX11_ordinate_1 : decode cX11_ordinate 1 = .ok (.iload_n 1, 1) := by decide +kernel
theorem dX11_ordinate_2 : decode cX11_ordinate 2 = .ok (.invokevirtual 140, 3) := by decide +kernel
theorem dX11_ordinate_5 : decode cX11_ordinate 5 = .ok (.astore 4, 2) := by decide +kernel
theorem dX11_ordinate_7 : decode cX11_ordinate 7 = .ok (.iload_n 2, 1) := by decide +kernel
theorem dX11_ordinate_8 : decode cX11_ordinate 8 = .ok (.ifCond .lt 21, 3) := by decide +kernel
theorem dX11_ordinate_11 : decode cX11_ordinate 11 = .ok (.iload_n 2, 1) := by decide +kernel
theorem dX11_ordinate_12 : decode cX11_ordinate 12 = .ok (.aload 4, 2) := by decide +kernel
theorem dX11_ordinate_14 : decode cX11_ordinate 14 = .ok (.getfield 201, 3) := by decide +kernel
theorem dX11_ordinate_17 : decode cX11_ordinate 17 = .ok (.if_icmp .ge 12, 3) := by decide +kernel
theorem dX11_ordinate_20 : decode cX11_ordinate 20 = .ok (.iload_n 3, 1) := by decide +kernel
theorem dX11_ordinate_21 : decode cX11_ordinate 21 = .ok (.ifCond .lt 8, 3) := by decide +kernel
theorem dX11_ordinate_24 : decode cX11_ordinate 24 = .ok (.iload_n 3, 1) := by decide +kernel
theorem dX11_ordinate_25 : decode cX11_ordinate 25 = .ok (.iconst 1, 1) := by decide +kernel
theorem dX11_ordinate_26 : decode cX11_ordinate 26 = .ok (.if_icmp .le 11, 3) := by decide +kernel
theorem dX11_ordinate_29 : decode cX11_ordinate 29 = .ok (.new 137, 3) := by decide +kernel
theorem dX11_ordinate_32 : decode cX11_ordinate 32 = .ok (.dup, 1) := by decide +kernel
theorem dX11_ordinate_33 : decode cX11_ordinate 33 = .ok (.invokespecial 139, 3) := by decide +kernel
theorem dX11_ordinate_36 : decode cX11_ordinate 36 = .ok (.athrow, 1) := by decide +kernel
theorem dX11_ordinate_37 : decode cX11_ordinate 37 = .ok (.iload_n 3, 1) := by decide +kernel
theorem dX11_ordinate_38 : decode cX11_ordinate 38 = .ok (.ifCond .ne 13, 3) := by decide +kernel
theorem dX11_ordinate_41 : decode cX11_ordinate 41 = .ok (.aload 4, 2) := by decide +kernel
theorem dX11_ordinate_43 : decode cX11_ordinate 43 = .ok (.getfield 204, 3) := by decide +kernel
theorem dX11_ordinate_46 : decode cX11_ordinate 46 = .ok (.iload_n 2, 1) := by decide +kernel
theorem dX11_ordinate_47 : decode cX11_ordinate 47 = .ok (.iaload, 1) := by decide +kernel
theorem dX11_ordinate_48 : decode cX11_ordinate 48 = .ok (.goto 10, 3) := by decide +kernel
theorem dX11_ordinate_51 : decode cX11_ordinate 51 = .ok (.aload 4, 2) := by decide +kernel
theorem dX11_ordinate_53 : decode cX11_ordinate 53 = .ok (.getfield 207, 3) := by decide +kernel
theorem dX11_ordinate_56 : decode cX11_ordinate 56 = .ok (.iload_n 2, 1) := by decide +kernel
theorem dX11_ordinate_57 : decode cX11_ordinate 57 = .ok (.iaload, 1) := by decide +kernel
theorem dX11_ordinate_58 : decode cX11_ordinate 58 = .ok (.ireturn, 1) := by decide +kernel
abbrev M_X11_ordinate : MRec := (yX11_ordinate, cX11_ordinate, 5, (some Jvm.ClassFile.FieldType.int), [])
theorem m_X11_ordinate : en_M M_X11_ordinate 3 := ⟨t_2290, t_1, ⟨by decide +kernel, by decide +kernel⟩, by decide +kernel, by decide +kernel, by decide +kernel⟩
theorem dX11_slotsWithShapes_0 : decode cX11_slotsWithShapes 0 = .ok (.iconst 0, 1) := by decide +kernel
theorem dX11_slotsWithShapes_1 : decode cX11_slotsWithShapes 1 = .ok (.istore_n 1, 1) := by decide +kernel
theorem dX11_slotsWithShapes_2 : decode cX11_slotsWithShapes 2 = .ok (.iconst 0, 1) := by decide +kernel
theorem dX11_slotsWithShapes_3 : decode cX11_slotsWithShapes 3 = .ok (.istore_n 2, 1) := by decide +kernel
theorem dX11_slotsWithShapes_4 : decode cX11_slotsWithShapes 4 = .ok (.iload_n 2, 1) := by decide +kernel
theorem dX11_slotsWithShapes_5 : decode cX11_slotsWithShapes 5 = .ok (.bipush 32, 2) := by decide +kernel
theorem dX11_slotsWithShapes_7 : decode cX11_slotsWithShapes 7 = .ok (.if_icmp .ge 24, 3) := by decide +kernel
theorem dX11_slotsWithShapes_10 : decode cX11_slotsWithShapes 10 = .ok (.aload_n 0, 1) := by decide +kernel
theorem dX11_slotsWithShapes_11 : decode cX11_slotsWithShapes 11 = .ok (.getfield 11, 3) := by decide +kernel
theorem dX11_slotsWithShapes_14 : decode cX11_slotsWithShapes 14 = .ok (.iload_n 2, 1) := by decide +kernel
theorem dX11_slotsWithShapes_15 : decode cX11_slotsWithShapes 15 = .ok (.aaload, 1) := by decide +kernel
theorem dX11_slotsWithShapes_16 : decode cX11_slotsWithShapes 16 = .ok (.invokevirtual 184, 3) := by decide +kernel
theorem dX11_slotsWithShapes_19 : decode cX11_slotsWithShapes 19 = .ok (.ifCond .eq 6, 3) := by decide +kernel
theorem dX11_slotsWithShapes_22 : decode cX11_slotsWithShapes 22 = .ok (.iinc 1 1, 3) := by decide +kernel
theorem dX11_slotsWithShapes_25 : decode cX11_slotsWithShapes 25 = .ok (.iinc 2 1, 3) := by decide +kernel
theorem dX11_slotsWithShapes_28 : decode cX11_slotsWithShapes 28 = .ok (.goto (-24), 3) := by decide +kernel
theorem dX11_slotsWithShapes_31 : decode cX11_slotsWithShapes 31 = .ok (.iload_n 1, 1) := by decide +kernel
theorem dX11_slotsWithShapes_32 : decode cX11_slotsWithShapes 32 = .ok (.ireturn, 1) := by decide +kernel
abbrev M_X11_slotsWithShapes : MRec := (yX11_slotsWithShapes, cX11_slotsWithShapes, 3, (some Jvm.ClassFile.FieldType.int), [])
theorem m_X11_slotsWithShapes : en_M M_X11_slotsWithShapes 0 := ⟨t_2301, t_1, ⟨by decide +kernel, by decide +kernel⟩, by decide +kernel, by decide +kernel, by decide +kernel⟩
theorem dX11_count_0 : decode cX11_count 0 = .ok (.aload_n 0, 1) := by decide +kernel
theorem dX11_count_1 : decode cX11_count 1 = .ok (.iload_n 1, 1) := by decide +kernel
theorem dX11_count_2 : decode cX11_count 2 = .ok (.invokevirtual 140, 3) := by decide +kernel
theorem dX11_count_5 : decode cX11_count 5 = .ok (.astore_n 3, 1) := by decide +kernel
theorem dX11_count_6 : decode cX11_count 6 = .ok (.iload_n 2, 1) := by decide +kernel
theorem dX11_count_7 : decode cX11_count 7 = .ok (.tableswitch 70 0 5 #[37, 42, 47, 52, 60, 65], 37) := by decide +kernel
theorem dX11_count_44 : decode cX11_count 44 = .ok (.aload_n 3, 1) := by decide +kernel
theorem dX11_count_45 : decode cX11_count 45 = .ok (.getfield 195, 3) := by decide +kernel
theorem dX11_count_48 : decode cX11_count 48 = .ok (.ireturn, 1) := by decide +kernel
theorem dX11_count_49 : decode cX11_count 49 = .ok (.aload_n 3, 1) := by decide +kernel
theorem dX11_count_50 : decode cX11_count 50 = .ok (.getfield 201, 3) := by decide +kernel
theorem dX11_count_53 : decode cX11_count 53 = .ok (.ireturn, 1) := by decide +kernel
theorem dX11_count_54 : decode cX11_count 54 = .ok (.aload_n 0, 1) := by decide +kernel
theorem dX11_count_55 : decode cX11_count 55 = .ok (.getfield 105, 3) := by decide +kernel
theorem dX11_count_58 : decode cX11_count 58 = .ok (.ireturn, 1) := by decide +kernel
theorem dX11_count_59 : decode cX11_count 59 = .ok (.aload_n 0, 1) := by decide +kernel
theorem dX11_count_60 : decode cX11_count 60 = .ok (.getfield 46, 3) := by decide +kernel
theorem dX11_count_63 : decode cX11_count 63 = .ok (.getfield 119, 3) := by decide +kernel
theorem dX11_count_66 : decode cX11_count 66 = .ok (.ireturn, 1) := by decide +kernel
theorem dX11_count_67 : decode cX11_count 67 = .ok (.aload_n 0, 1) := by decide +kernel
theorem dX11_count_68 : decode cX11_count 68 = .ok (.invokevirtual 210, 3) := by decide +kernel
theorem dX11_count_71 : decode cX11_count 71 = .ok (.ireturn, 1) := by decide +kernel
theorem dX11_count_72 : decode cX11_count 72 = .ok (.aload_n 0, 1) := by decide +kernel
theorem dX11_count_73 : decode cX11_count 73 = .ok (.getfield 213, 3) := by decide +kernel
theorem dX11_count_76 : decode cX11_count 76 = .ok (.ireturn, 1) := by decide +kernel
theorem dX11_count_77 : decode cX11_count 77 = .ok (.new 137, 3) := by decide +kernel
theorem dX11_count_80 : decode cX11_count 80 = .ok (.dup, 1) := by decide +kernel
theorem dX11_count_81 : decode cX11_count 81 = .ok (.invokespecial 139, 3) := by decide +kernel
theorem dX11_count_84 : decode cX11_count 84 = .ok (.athrow, 1) := by decide +kernel
abbrev M_X11_count : MRec := (yX11_count, cX11_count, 4, (some Jvm.ClassFile.FieldType.int), [])
theorem m_X11_count : en_M M_X11_count 2 := ⟨t_2297, t_1, ⟨by decide +kernel, by decide +kernel⟩, by decide +kernel, by decide +kernel, by decide +kernel⟩
theorem dX1_isEmpty_0 : decode cX1_isEmpty 0 = .ok (.aload_n 0, 1) := by decide +kernel
theorem dX1_isEmpty_1 : decode cX1_isEmpty 1 = .ok (.getfield 41, 3) := by decide +kernel
theorem dX1_isEmpty_4 : decode cX1_isEmpty 4 = .ok (.iload_n 1, 1) := by decide +kernel
theorem dX1_isEmpty_5 : decode cX1_isEmpty 5 = .ok (.iaload, 1) := by decide +kernel
theorem dX1_isEmpty_6 : decode cX1_isEmpty 6 = .ok (.aload_n 0, 1) := by decide +kernel
theorem dX1_isEmpty_7 : decode cX1_isEmpty 7 = .ok (.getfield 44, 3) := by decide +kernel
theorem dX1_isEmpty_10 : decode cX1_isEmpty 10 = .ok (.iload_n 1, 1) := by decide +kernel
theorem dX1_isEmpty_11 : decode cX1_isEmpty 11 = .ok (.iaload, 1) := by decide +kernel
theorem dX1_isEmpty_12 : decode cX1_isEmpty 12 = .ok (.if_icmp .lt 7, 3) := by decide +kernel
theorem dX1_isEmpty_15 : decode cX1_isEmpty 15 = .ok (.iconst 1, 1) := by decide +kernel
theorem dX1_isEmpty_16 : decode cX1_isEmpty 16 = .ok (.goto 4, 3) := by decide +kernel
theorem dX1_isEmpty_19 : decode cX1_isEmpty 19 = .ok (.iconst 0, 1) := by decide +kernel
theorem dX1_isEmpty_20 : decode cX1_isEmpty 20 = .ok (.ireturn, 1) := by decide +kernel
abbrev M_X1_isEmpty : MRec := (yX1_isEmpty, cX1_isEmpty, 2, (some Jvm.ClassFile.FieldType.boolean), [])
theorem m_X1_isEmpty : en_M M_X1_isEmpty 1 := ⟨t_1228, t_6, ⟨by decide +kernel, by decide +kernel⟩, by decide +kernel, by decide +kernel, by decide +kernel⟩
theorem dJ13_compare_74951_0 : decode cJ13_compare_74951 0 = .ok (.lload_n 0, 1) := by decide +kernel
theorem dJ13_compare_74951_1 : decode cJ13_compare_74951 1 = .ok (.lload_n 2, 1) := by decide +kernel
theorem dJ13_compare_74951_2 : decode cJ13_compare_74951 2 = .ok (.lcmp, 1) := by decide +kernel
theorem dJ13_compare_74951_3 : decode cJ13_compare_74951 3 = .ok (.ifCond .ge 7, 3) := by decide +kernel
theorem dJ13_compare_74951_6 : decode cJ13_compare_74951 6 = .ok (.iconst (-1), 1) := by decide +kernel
theorem dJ13_compare_74951_7 : decode cJ13_compare_74951 7 = .ok (.goto 14, 3) := by decide +kernel
theorem dJ13_compare_74951_10 : decode cJ13_compare_74951 10 = .ok (.lload_n 0, 1) := by decide +kernel
theorem dJ13_compare_74951_11 : decode cJ13_compare_74951 11 = .ok (.lload_n 2, 1) := by decide +kernel
theorem dJ13_compare_74951_12 : decode cJ13_compare_74951 12 = .ok (.lcmp, 1) := by decide +kernel
theorem dJ13_compare_74951_13 : decode cJ13_compare_74951 13 = .ok (.ifCond .ne 7, 3) := by decide +kernel
theorem dJ13_compare_74951_16 : decode cJ13_compare_74951 16 = .ok (.iconst 0, 1) := by decide +kernel
theorem dJ13_compare_74951_17 : decode cJ13_compare_74951 17 = .ok (.goto 4, 3) := by decide +kernel
theorem dJ13_compare_74951_20 : decode cJ13_compare_74951 20 = .ok (.iconst 1, 1) := by decide +kernel
theorem dJ13_compare_74951_21 : decode cJ13_compare_74951 21 = .ok (.ireturn, 1) := by decide +kernel
abbrev M_J13_compare_74951 : MRec := (yJ13_compare_74951, cJ13_compare_74951, 4, (some Jvm.ClassFile.FieldType.int), [])
theorem m_J13_compare_74951 : en_M M_J13_compare_74951 2 := ⟨t_1269, t_28, ⟨by decide +kernel, by decide +kernel⟩, by decide +kernel, by decide +kernel, by decide +kernel⟩
theorem dX11_turnOf_0 : decode cX11_turnOf 0 = .ok (.lload 4, 2) := by decide +kernel
theorem dX11_turnOf_2 : decode cX11_turnOf 2 = .ok (.lload_n 0, 1) := by decide +kernel
theorem dX11_turnOf_3 : decode cX11_turnOf 3 = .ok (.lsub, 1) := by decide +kernel
theorem dX11_turnOf_4 : decode cX11_turnOf 4 = .ok (.lload 10, 2) := by decide +kernel
theorem dX11_turnOf_6 : decode cX11_turnOf 6 = .ok (.lload_n 2, 1) := by decide +kernel
theorem dX11_turnOf_7 : decode cX11_turnOf 7 = .ok (.lsub, 1) := by decide +kernel
theorem dX11_turnOf_8 : decode cX11_turnOf 8 = .ok (.lmul, 1) := by decide +kernel
theorem dX11_turnOf_9 : decode cX11_turnOf 9 = .ok (.lload 6, 2) := by decide +kernel
theorem dX11_turnOf_11 : decode cX11_turnOf 11 = .ok (.lload_n 2, 1) := by decide +kernel
theorem dX11_turnOf_12 : decode cX11_turnOf 12 = .ok (.lsub, 1) := by decide +kernel
theorem dX11_turnOf_13 : decode cX11_turnOf 13 = .ok (.lload 8, 2) := by decide +kernel
theorem dX11_turnOf_15 : decode cX11_turnOf 15 = .ok (.lload_n 0, 1) := by decide +kernel
theorem dX11_turnOf_16 : decode cX11_turnOf 16 = .ok (.lsub, 1) := by decide +kernel
theorem dX11_turnOf_17 : decode cX11_turnOf 17 = .ok (.lmul, 1) := by decide +kernel
theorem dX11_turnOf_18 : decode cX11_turnOf 18 = .ok (.invokestatic 346, 3) := by decide +kernel
theorem dX11_turnOf_21 : decode cX11_turnOf 21 = .ok (.ireturn, 1) := by decide +kernel
abbrev M_X11_turnOf : MRec := (yX11_turnOf, cX11_turnOf, 12, (some Jvm.ClassFile.FieldType.int), [])
theorem m_X11_turnOf : en_M M_X11_turnOf 6 := ⟨t_1266, t_1, ⟨by decide +kernel, by decide +kernel⟩, by decide +kernel, by decide +kernel, by decide +kernel⟩
theorem dX5_turn_0 : decode cX5_turn 0 = .ok (.aload_n 0, 1) := by decide +kernel
theorem dX5_turn_1 : decode cX5_turn 1 = .ok (.getfield 7, 3) := by decide +kernel
theorem dX5_turn_4 : decode cX5_turn 4 = .ok (.iload_n 1, 1) := by decide +kernel
theorem dX5_turn_5 : decode cX5_turn 5 = .ok (.iaload, 1) := by decide +kernel
theorem dX5_turn_6 : decode cX5_turn 6 = .ok (.i2l, 1) := by decide +kernel
theorem dX5_turn_7 : decode cX5_turn 7 = .ok (.aload_n 0, 1) := by decide +kernel
theorem dX5_turn_8 : decode cX5_turn 8 = .ok (.getfield 13, 3) := by decide +kernel
theorem dX5_turn_11 : decode cX5_turn 11 = .ok (.iload_n 1, 1) := by decide +kernel
theorem dX5_turn_12 : decode cX5_turn 12 = .ok (.iaload, 1) := by decide +kernel
theorem dX5_turn_13 : decode cX5_turn 13 = .ok (.i2l, 1) := by decide +kernel
theorem dX5_turn_14 : decode cX5_turn 14 = .ok (.aload_n 0, 1) := by decide +kernel
theorem dX5_turn_15 : decode cX5_turn 15 = .ok (.getfield 16, 3) := by decide +kernel
theorem dX5_turn_18 : decode cX5_turn 18 = .ok (.iload_n 1, 1) := by decide +kernel
theorem dX5_turn_19 : decode cX5_turn 19 = .ok (.iaload, 1) := by decide +kernel
theorem dX5_turn_20 : decode cX5_turn 20 = .ok (.i2l, 1) := by decide +kernel
theorem dX5_turn_21 : decode cX5_turn 21 = .ok (.aload_n 0, 1) := by decide +kernel
theorem dX5_turn_22 : decode cX5_turn 22 = .ok (.getfield 19, 3) := by decide +kernel
theorem dX5_turn_25 : decode cX5_turn 25 = .ok (.iload_n 1, 1) := by decide +kernel
theorem dX5_turn_26 : decode cX5_turn 26 = .ok (.iaload, 1) := by decide +kernel
theorem dX5_turn_27 : decode cX5_turn 27 = .ok (.i2l, 1) := by decide +kernel
theorem dX5_turn_28 : decode cX5_turn 28 = .ok (.iload_n 2, 1) := by decide +kernel
theorem dX5_turn_29 : decode cX5_turn 29 = .ok (.i2l, 1) := by decide +kernel
theorem dX5_turn_30 : decode cX5_turn 30 = .ok (.iload_n 3, 1) := by decide +kernel
theorem dX5_turn_31 : decode cX5_turn 31 = .ok (.i2l, 1) := by decide +kernel
theorem dX5_turn_32 : decode cX5_turn 32 = .ok (.invokestatic 59, 3) := by decide +kernel
theorem dX5_turn_35 : decode cX5_turn 35 = .ok (.ireturn, 1) := by decide +kernel
abbrev M_X5_turn : MRec := (yX5_turn, cX5_turn, 4, (some Jvm.ClassFile.FieldType.int), [])
theorem m_X5_turn : en_M M_X5_turn 3 := ⟨t_1263, t_7, ⟨by decide +kernel, by decide +kernel⟩, by decide +kernel, by decide +kernel, by decide +kernel⟩
theorem dX1_isInsideBehindBegin_0 : decode cX1_isInsideBehindBegin 0 = .ok (.aload_n 0, 1) := by decide +kernel
theorem dX1_isInsideBehindBegin_1 : decode cX1_isInsideBehindBegin 1 = .ok (.getfield 22, 3) := by decide +kernel
theorem dX1_isInsideBehindBegin_4 : decode cX1_isInsideBehindBegin 4 = .ok (.getfield 182, 3) := by decide +kernel
theorem dX1_isInsideBehindBegin_7 : decode cX1_isInsideBehindBegin 7 = .ok (.iload_n 2, 1) := by decide +kernel
theorem dX1_isInsideBehindBegin_8 : decode cX1_isInsideBehindBegin 8 = .ok (.iaload, 1) := by decide +kernel
theorem dX1_isInsideBehindBegin_9 : decode cX1_isInsideBehindBegin 9 = .ok (.istore_n 3, 1) := by decide +kernel
theorem dX1_isInsideBehindBegin_10 : decode cX1_isInsideBehindBegin 10 = .ok (.aload_n 0, 1) := by decide +kernel
theorem dX1_isInsideBehindBegin_11 : decode cX1_isInsideBehindBegin 11 = .ok (.getfield 22, 3) := by decide +kernel
theorem dX1_isInsideBehindBegin_14 : decode cX1_isInsideBehindBegin 14 = .ok (.getfield 185, 3) := by decide +kernel
theorem dX1_isInsideBehindBegin_17 : decode cX1_isInsideBehindBegin 17 = .ok (.iload_n 2, 1) := by decide +kernel
theorem dX1_isInsideBehindBegin_18 : decode cX1_isInsideBehindBegin 18 = .ok (.iaload, 1) := by decide +kernel
theorem dX1_isInsideBehindBegin_19 : decode cX1_isInsideBehindBegin 19 = .ok (.istore 4, 2) := by decide +kernel
theorem dX1_isInsideBehindBegin_21 : decode cX1_isInsideBehindBegin 21 = .ok (.aload_n 0, 1) := by decide +kernel
theorem dX1_isInsideBehindBegin_22 : decode cX1_isInsideBehindBegin 22 = .ok (.getfield 22, 3) := by decide +kernel
theorem dX1_isInsideBehindBegin_25 : decode cX1_isInsideBehindBegin 25 = .ok (.getfield 172, 3) := by decide +kernel
theorem dX1_isInsideBehindBegin_28 : decode cX1_isInsideBehindBegin 28 = .ok (.iload_n 2, 1) := by decide +kernel
theorem dX1_isInsideBehindBegin_29 : decode cX1_isInsideBehindBegin 29 = .ok (.iaload, 1) := by decide +kernel
theorem dX1_isInsideBehindBegin_30 : decode cX1_isInsideBehindBegin 30 = .ok (.i2l, 1) := by decide +kernel
theorem dX1_isInsideBehindBegin_31 : decode cX1_isInsideBehindBegin 31 = .ok (.iload_n 3, 1) := by decide +kernel
theorem dX1_isInsideBehindBegin_32 : decode cX1_isInsideBehindBegin 32 = .ok (.i2l, 1) := by decide +kernel
theorem dX1_isInsideBehindBegin_33 : decode cX1_isInsideBehindBegin 33 = .ok (.lsub, 1) := by decide +kernel
theorem dX1_isInsideBehindBegin_34 : decode cX1_isInsideBehindBegin 34 = .ok (.lstore 5, 2) := by decide +kernel
theorem dX1_isInsideBehindBegin_36 : decode cX1_isInsideBehindBegin 36 = .ok (.aload_n 0, 1) := by decide +kernel
theorem dX1_isInsideBehindBegin_37 : decode cX1_isInsideBehindBegin 37 = .ok (.getfield 22, 3) := by decide +kernel
theorem dX1_isInsideBehindBegin_40 : decode cX1_isInsideBehindBegin 40 = .ok (.getfield 175, 3) := by decide +kernel
theorem dX1_isInsideBehindBegin_43 : decode cX1_isInsideBehindBegin 43 = .ok (.iload_n 2, 1) := by decide +kernel
theorem dX1_isInsideBehindBegin_44 : decode cX1_isInsideBehindBegin 44 = .ok (.iaload, 1) := by decide +kernel
theorem dX1_isInsideBehindBegin_45 : decode cX1_isInsideBehindBegin 45 = .ok (.i2l, 1) := by decide +kernel
theorem dX1_isInsideBehindBegin_46 : decode cX1_isInsideBehindBegin 46 = .ok (.iload 4, 2) := by decide +kernel
theorem dX1_isInsideBehindBegin_48 : decode cX1_isInsideBehindBegin 48 = .ok (.i2l, 1) := by decide +kernel
theorem dX1_isInsideBehindBegin_49 : decode cX1_isInsideBehindBegin 49 = .ok (.lsub, 1) := by decide +kernel
theorem dX1_isInsideBehindBegin_50 : decode cX1_isInsideBehindBegin 50 = .ok (.lstore 7, 2) := by decide +kernel
theorem dX1_isInsideBehindBegin_52 : decode cX1_isInsideBehindBegin 52 = .ok (.iconst 0, 1) := by decide +kernel
theorem dX1_isInsideBehindBegin_53 : decode cX1_isInsideBehindBegin 53 = .ok (.istore 9, 2) := by decide +kernel
theorem dX1_isInsideBehindBegin_55 : decode cX1_isInsideBehindBegin 55 = .ok (.aload_n 0, 1) := by decide +kernel
theorem dX1_isInsideBehindBegin_56 : decode cX1_isInsideBehindBegin 56 = .ok (.getfield 35, 3) := by decide +kernel
theorem dX1_isInsideBehindBegin_59 : decode cX1_isInsideBehindBegin 59 = .ok (.iload_n 1, 1) := by decide +kernel
theorem dX1_isInsideBehindBegin_60 : decode cX1_isInsideBehindBegin 60 = .ok (.iaload, 1) := by decide +kernel
theorem dX1_isInsideBehindBegin_61 : decode cX1_isInsideBehindBegin 61 = .ok (.istore 10, 2) := by decide +kernel
theorem dX1_isInsideBehindBegin_63 : decode cX1_isInsideBehindBegin 63 = .ok (.iload 10, 2) := by decide +kernel
theorem dX1_isInsideBehindBegin_65 : decode cX1_isInsideBehindBegin 65 = .ok (.aload_n 0, 1) := by decide +kernel
theorem dX1_isInsideBehindBegin_66 : decode cX1_isInsideBehindBegin 66 = .ok (.getfield 38, 3) := by decide +kernel
theorem dX1_isInsideBehindBegin_69 : decode cX1_isInsideBehindBegin 69 = .ok (.iload_n 1, 1) := by decide +kernel
theorem dX1_isInsideBehindBegin_70 : decode cX1_isInsideBehindBegin 70 = .ok (.iaload, 1) := by decide +kernel
theorem dX1_isInsideBehindBegin_71 : decode cX1_isInsideBehindBegin 71 = .ok (.if_icmp .ge 213, 3) := by decide +kernel
theorem dX1_isInsideBehindBegin_74 : decode cX1_isInsideBehindBegin 74 = .ok (.aload_n 0, 1) := by decide +kernel
theorem dX1_isInsideBehindBegin_75 : decode cX1_isInsideBehindBegin 75 = .ok (.getfield 22, 3) := by decide +kernel
theorem dX1_isInsideBehindBegin_78 : decode cX1_isInsideBehindBegin 78 = .ok (.getfield 185, 3) := by decide +kernel
theorem dX1_isInsideBehindBegin_81 : decode cX1_isInsideBehindBegin 81 = .ok (.iload 10, 2) := by decide +kernel
theorem dX1_isInsideBehindBegin_83 : decode cX1_isInsideBehindBegin 83 = .ok (.iaload, 1) := by decide +kernel
theorem dX1_isInsideBehindBegin_84 : decode cX1_isInsideBehindBegin 84 = .ok (.iload 4, 2) := by decide +kernel
theorem dX1_isInsideBehindBegin_86 : decode cX1_isInsideBehindBegin 86 = .ok (.if_icmp .gt 25, 3) := by decide +kernel
theorem dX1_isInsideBehindBegin_89 : decode cX1_isInsideBehindBegin 89 = .ok (.aload_n 0, 1) := by decide +kernel
theorem dX1_isInsideBehindBegin_90 : decode cX1_isInsideBehindBegin 90 = .ok (.getfield 22, 3) := by decide +kernel
theorem dX1_isInsideBehindBegin_93 : decode cX1_isInsideBehindBegin 93 = .ok (.getfield 185, 3) := by decide +kernel
theorem dX1_isInsideBehindBegin_96 : decode cX1_isInsideBehindBegin 96 = .ok (.iload 10, 2) := by decide +kernel
theorem dX1_isInsideBehindBegin_98 : decode cX1_isInsideBehindBegin 98 = .ok (.iaload, 1) := by decide +kernel
theorem dX1_isInsideBehindBegin_99 : decode cX1_isInsideBehindBegin 99 = .ok (.iload 4, 2) := by decide +kernel
theorem dX1_isInsideBehindBegin_101 : decode cX1_isInsideBehindBegin 101 = .ok (.if_icmp .ne 14, 3) := by decide +kernel
theorem dX1_isInsideBehindBegin_104 : decode cX1_isInsideBehindBegin 104 = .ok (.lload 7, 2) := by decide +kernel
theorem dX1_isInsideBehindBegin_106 : decode cX1_isInsideBehindBegin 106 = .ok (.lconst 0, 1) := by decide +kernel
theorem dX1_isInsideBehindBegin_107 : decode cX1_isInsideBehindBegin 107 = .ok (.lcmp, 1) := by decide +kernel
theorem dX1_isInsideBehindBegin_108 : decode cX1_isInsideBehindBegin 108 = .ok (.ifCond .ge 7, 3) := by decide +kernel
theorem dX1_isInsideBehindBegin_111 : decode cX1_isInsideBehindBegin 111 = .ok (.iconst 1, 1) := by decide +kernel
theorem dX1_isInsideBehindBegin_112 : decode cX1_isInsideBehindBegin 112 = .ok (.goto 4, 3) := by decide +kernel
theorem dX1_isInsideBehindBegin_115 : decode cX1_isInsideBehindBegin 115 = .ok (.iconst 0, 1) := by decide +kernel
theorem dX1_isInsideBehindBegin_116 : decode cX1_isInsideBehindBegin 116 = .ok (.istore 11, 2) := by decide +kernel
theorem dX1_isInsideBehindBegin_118 : decode cX1_isInsideBehindBegin 118 = .ok (.aload_n 0, 1) := by decide +kernel
theorem dX1_isInsideBehindBegin_119 : decode cX1_isInsideBehindBegin 119 = .ok (.getfield 22, 3) := by decide +kernel
theorem dX1_isInsideBehindBegin_122 : decode cX1_isInsideBehindBegin 122 = .ok (.getfield 175, 3) := by decide +kernel
theorem dX1_isInsideBehindBegin_125 : decode cX1_isInsideBehindBegin 125 = .ok (.iload 10, 2) := by decide +kernel
theorem dX1_isInsideBehindBegin_127 : decode cX1_isInsideBehindBegin 127 = .ok (.iaload, 1) := by decide +kernel
theorem dX1_isInsideBehindBegin_128 : decode cX1_isInsideBehindBegin 128 = .ok (.iload 4, 2) := by decide +kernel
theorem dX1_isInsideBehindBegin_130 : decode cX1_isInsideBehindBegin 130 = .ok (.if_icmp .gt 25, 3) := by decide +kernel
theorem dX1_isInsideBehindBegin_133 : decode cX1_isInsideBehindBegin 133 = .ok (.aload_n 0, 1) := by decide +kernel
theorem dX1_isInsideBehindBegin_134 : decode cX1_isInsideBehindBegin 134 = .ok (.getfield 22, 3) := by decide +kernel
theorem dX1_isInsideBehindBegin_137 : decode cX1_isInsideBehindBegin 137 = .ok (.getfield 175, 3) := by decide +kernel
theorem dX1_isInsideBehindBegin_140 : decode cX1_isInsideBehindBegin 140 = .ok (.iload 10, 2) := by decide +kernel
theorem dX1_isInsideBehindBegin_142 : decode cX1_isInsideBehindBegin 142 = .ok (.iaload, 1) := by decide +kernel
theorem dX1_isInsideBehindBegin_143 : decode cX1_isInsideBehindBegin 143 = .ok (.iload 4, 2) := by decide +kernel
theorem dX1_isInsideBehindBegin_145 : decode cX1_isInsideBehindBegin 145 = .ok (.if_icmp .ne 14, 3) := by decide +kernel
theorem dX1_isInsideBehindBegin_148 : decode cX1_isInsideBehindBegin 148 = .ok (.lload 7, 2) := by decide +kernel
theorem dX1_isInsideBehindBegin_150 : decode cX1_isInsideBehindBegin 150 = .ok (.lconst 0, 1) := by decide +kernel
theorem dX1_isInsideBehindBegin_151 : decode cX1_isInsideBehindBegin 151 = .ok (.lcmp, 1) := by decide +kernel
theorem dX1_isInsideBehindBegin_152 : decode cX1_isInsideBehindBegin 152 = .ok (.ifCond .ge 7, 3) := by decide +kernel
theorem dX1_isInsideBehindBegin_155 : decode cX1_isInsideBehindBegin 155 = .ok (.iconst 1, 1) := by decide +kernel
theorem dX1_isInsideBehindBegin_156 : decode cX1_isInsideBehindBegin 156 = .ok (.goto 4, 3) := by decide +kernel
theorem dX1_isInsideBehindBegin_159 : decode cX1_isInsideBehindBegin 159 = .ok (.iconst 0, 1) := by decide +kernel
theorem dX1_isInsideBehindBegin_160 : decode cX1_isInsideBehindBegin 160 = .ok (.istore 12, 2) := by decide +kernel
theorem dX1_isInsideBehindBegin_162 : decode cX1_isInsideBehindBegin 162 = .ok (.iload 11, 2) := by decide +kernel
theorem dX1_isInsideBehindBegin_164 : decode cX1_isInsideBehindBegin 164 = .ok (.iload 12, 2) := by decide +kernel
theorem dX1_isInsideBehindBegin_166 : decode cX1_isInsideBehindBegin 166 = .ok (.if_icmp .ne 6, 3) := by decide +kernel
theorem dX1_isInsideBehindBegin_169 : decode cX1_isInsideBehindBegin 169 = .ok (.goto 109, 3) := by decide +kernel
theorem dX1_isInsideBehindBegin_172 : decode cX1_isInsideBehindBegin 172 = .ok (.aload_n 0, 1) := by decide +kernel
theorem dX1_isInsideBehindBegin_173 : decode cX1_isInsideBehindBegin 173 = .ok (.getfield 22, 3) := by decide +kernel
theorem dX1_isInsideBehindBegin_176 : decode cX1_isInsideBehindBegin 176 = .ok (.iload 10, 2) := by decide +kernel
theorem dX1_isInsideBehindBegin_178 : decode cX1_isInsideBehindBegin 178 = .ok (.iload_n 3, 1) := by decide +kernel
theorem dX1_isInsideBehindBegin_179 : decode cX1_isInsideBehindBegin 179 = .ok (.iload 4, 2) := by decide +kernel
theorem dX1_isInsideBehindBegin_181 : decode cX1_isInsideBehindBegin 181 = .ok (.invokevirtual 208, 3) := by decide +kernel
theorem dX1_isInsideBehindBegin_184 : decode cX1_isInsideBehindBegin 184 = .ok (.istore 13, 2) := by decide +kernel
theorem dX1_isInsideBehindBegin_186 : decode cX1_isInsideBehindBegin 186 = .ok (.iload 13, 2) := by decide +kernel
theorem dX1_isInsideBehindBegin_188 : decode cX1_isInsideBehindBegin 188 = .ok (.ifCond .ne 60, 3) := by decide +kernel
theorem dX1_isInsideBehindBegin_191 : decode cX1_isInsideBehindBegin 191 = .ok (.lconst 0, 1) := by decide +kernel
theorem dX1_isInsideBehindBegin_192 : decode cX1_isInsideBehindBegin 192 = .ok (.lconst 0, 1) := by decide +kernel
theorem dX1_isInsideBehindBegin_193 : decode cX1_isInsideBehindBegin 193 = .ok (.aload_n 0, 1) := by decide +kernel
theorem dX1_isInsideBehindBegin_194 : decode cX1_isInsideBehindBegin 194 = .ok (.getfield 22, 3) := by decide +kernel
theorem dX1_isInsideBehindBegin_197 : decode cX1_isInsideBehindBegin 197 = .ok (.getfield 172, 3) := by decide +kernel
theorem dX1_isInsideBehindBegin_200 : decode cX1_isInsideBehindBegin 200 = .ok (.iload 10, 2) := by decide +kernel
theorem dX1_isInsideBehindBegin_202 : decode cX1_isInsideBehindBegin 202 = .ok (.iaload, 1) := by decide +kernel
theorem dX1_isInsideBehindBegin_203 : decode cX1_isInsideBehindBegin 203 = .ok (.i2l, 1) := by decide +kernel
theorem dX1_isInsideBehindBegin_204 : decode cX1_isInsideBehindBegin 204 = .ok (.aload_n 0, 1) := by decide +kernel
theorem dX1_isInsideBehindBegin_205 : decode cX1_isInsideBehindBegin 205 = .ok (.getfield 22, 3) := by decide +kernel
theorem dX1_isInsideBehindBegin_208 : decode cX1_isInsideBehindBegin 208 = .ok (.getfield 182, 3) := by decide +kernel
theorem dX1_isInsideBehindBegin_211 : decode cX1_isInsideBehindBegin 211 = .ok (.iload 10, 2) := by decide +kernel
theorem dX1_isInsideBehindBegin_213 : decode cX1_isInsideBehindBegin 213 = .ok (.iaload, 1) := by decide +kernel
theorem dX1_isInsideBehindBegin_214 : decode cX1_isInsideBehindBegin 214 = .ok (.i2l, 1) := by decide +kernel
theorem dX1_isInsideBehindBegin_215 : decode cX1_isInsideBehindBegin 215 = .ok (.lsub, 1) := by decide +kernel
theorem dX1_isInsideBehindBegin_216 : decode cX1_isInsideBehindBegin 216 = .ok (.aload_n 0, 1) := by decide +kernel
theorem dX1_isInsideBehindBegin_217 : decode cX1_isInsideBehindBegin 217 = .ok (.getfield 22, 3) := by decide +kernel
theorem dX1_isInsideBehindBegin_220 : decode cX1_isInsideBehindBegin 220 = .ok (.getfield 175, 3) := by decide +kernel
theorem dX1_isInsideBehindBegin_223 : decode cX1_isInsideBehindBegin 223 = .ok (.iload 10, 2) := by decide +kernel
theorem dX1_isInsideBehindBegin_225 : decode cX1_isInsideBehindBegin 225 = .ok (.iaload, 1) := by decide +kernel
theorem dX1_isInsideBehindBegin_226 : decode cX1_isInsideBehindBegin 226 = .ok (.i2l, 1) := by decide +kernel
theorem dX1_isInsideBehindBegin_227 : decode cX1_isInsideBehindBegin 227 = .ok (.aload_n 0, 1) := by decide +kernel
theorem dX1_isInsideBehindBegin_228 : decode cX1_isInsideBehindBegin 228 = .ok (.getfield 22, 3) := by decide +kernel
theorem dX1_isInsideBehindBegin_231 : decode cX1_isInsideBehindBegin 231 = .ok (.getfield 185, 3) := by decide +kernel
theorem dX1_isInsideBehindBegin_234 : decode cX1_isInsideBehindBegin 234 = .ok (.iload 10, 2) := by decide +kernel
theorem dX1_isInsideBehindBegin_236 : decode cX1_isInsideBehindBegin 236 = .ok (.iaload, 1) := by decide +kernel
theorem dX1_isInsideBehindBegin_237 : decode cX1_isInsideBehindBegin 237 = .ok (.i2l, 1) := by decide +kernel
theorem dX1_isInsideBehindBegin_238 : decode cX1_isInsideBehindBegin 238 = .ok (.lsub, 1) := by decide +kernel
theorem dX1_isInsideBehindBegin_239 : decode cX1_isInsideBehindBegin 239 = .ok (.lload 5, 2) := by decide +kernel
theorem dX1_isInsideBehindBegin_241 : decode cX1_isInsideBehindBegin 241 = .ok (.lload 7, 2) := by decide +kernel
theorem dX1_isInsideBehindBegin_243 : decode cX1_isInsideBehindBegin 243 = .ok (.invokestatic 188, 3) := by decide +kernel
theorem dX1_isInsideBehindBegin_246 : decode cX1_isInsideBehindBegin 246 = .ok (.istore 13, 2) := by decide +kernel
theorem dX1_isInsideBehindBegin_248 : decode cX1_isInsideBehindBegin 248 = .ok (.iload 12, 2) := by decide +kernel
theorem dX1_isInsideBehindBegin_250 : decode cX1_isInsideBehindBegin 250 = .ok (.ifCond .eq 11, 3) := by decide +kernel
theorem dX1_isInsideBehindBegin_253 : decode cX1_isInsideBehindBegin 253 = .ok (.iload 13, 2) := by decide +kernel
theorem dX1_isInsideBehindBegin_255 : decode cX1_isInsideBehindBegin 255 = .ok (.ifCond .le 23, 3) := by decide +kernel
theorem dX1_isInsideBehindBegin_258 : decode cX1_isInsideBehindBegin 258 = .ok (.goto 8, 3) := by decide +kernel
theorem dX1_isInsideBehindBegin_261 : decode cX1_isInsideBehindBegin 261 = .ok (.iload 13, 2) := by decide +kernel
theorem dX1_isInsideBehindBegin_263 : decode cX1_isInsideBehindBegin 263 = .ok (.ifCond .ge 15, 3) := by decide +kernel
theorem dX1_isInsideBehindBegin_266 : decode cX1_isInsideBehindBegin 266 = .ok (.iload 9, 2) := by decide +kernel
theorem dX1_isInsideBehindBegin_268 : decode cX1_isInsideBehindBegin 268 = .ok (.ifCond .ne 7, 3) := by decide +kernel
theorem dX1_isInsideBehindBegin_271 : decode cX1_isInsideBehindBegin 271 = .ok (.iconst 1, 1) := by decide +kernel
theorem dX1_isInsideBehindBegin_272 : decode cX1_isInsideBehindBegin 272 = .ok (.goto 4, 3) := by decide +kernel
theorem dX1_isInsideBehindBegin_275 : decode cX1_isInsideBehindBegin 275 = .ok (.iconst 0, 1) := by decide +kernel
theorem dX1_isInsideBehindBegin_276 : decode cX1_isInsideBehindBegin 276 = .ok (.istore 9, 2) := by decide +kernel
theorem dX1_isInsideBehindBegin_278 : decode cX1_isInsideBehindBegin 278 = .ok (.iinc 10 1, 3) := by decide +kernel
theorem dX1_isInsideBehindBegin_281 : decode cX1_isInsideBehindBegin 281 = .ok (.goto (-218), 3) := by decide +kernel
theorem dX1_isInsideBehindBegin_284 : decode cX1_isInsideBehindBegin 284 = .ok (.iload 9, 2) := by decide +kernel
theorem dX1_isInsideBehindBegin_286 : decode cX1_isInsideBehindBegin 286 = .ok (.ireturn, 1) := by decide +kernel
abbrev M_X1_isInsideBehindBegin : MRec := (yX1_isInsideBehindBegin, cX1_isInsideBehindBegin, 14, (some Jvm.ClassFile.FieldType.boolean), [])
theorem m_X1_isInsideBehindBegin : en_M M_X1_isInsideBehindBegin 2 := ⟨t_1330, t_6, ⟨by decide +kernel, by decide +kernel⟩, by decide +kernel, by decide +kernel, by decide +kernel⟩
theorem dX11_isCrossedFrom_0 : decode cX11_isCrossedFrom 0 = .ok (.iload_n 3, 1) := by decide +kernel
theorem dX11_isCrossedFrom_1 : decode cX11_isCrossedFrom 1 = .ok (.iload 5, 2) := by decide +kernel
theorem dX11_isCrossedFrom_3 : decode cX11_isCrossedFrom 3 = .ok (.if_icmp .le 7, 3) := by decide +kernel
theorem dX11_isCrossedFrom_6 : decode cX11_isCrossedFrom 6 = .ok (.iconst 1, 1) := by decide +kernel
theorem dX11_isCrossedFrom_7 : decode cX11_isCrossedFrom 7 = .ok (.goto 4, 3) := by decide +kernel
theorem dX11_isCrossedFrom_10 : decode cX11_isCrossedFrom 10 = .ok (.iconst 0, 1) := by decide +kernel
theorem dX11_isCrossedFrom_11 : decode cX11_isCrossedFrom 11 = .ok (.istore 6, 2) := by decide +kernel
theorem dX11_isCrossedFrom_13 : decode cX11_isCrossedFrom 13 = .ok (.iload_n 1, 1) := by decide +kernel
theorem dX11_isCrossedFrom_14 : decode cX11_isCrossedFrom 14 = .ok (.iload 5, 2) := by decide +kernel
theorem dX11_isCrossedFrom_16 : decode cX11_isCrossedFrom 16 = .ok (.if_icmp .le 7, 3) := by decide +kernel
theorem dX11_isCrossedFrom_19 : decode cX11_isCrossedFrom 19 = .ok (.iconst 1, 1) := by decide +kernel
theorem dX11_isCrossedFrom_20 : decode cX11_isCrossedFrom 20 = .ok (.goto 4, 3) := by decide +kernel
theorem dX11_isCrossedFrom_23 : decode cX11_isCrossedFrom 23 = .ok (.iconst 0, 1) := by decide +kernel
theorem dX11_isCrossedFrom_24 : decode cX11_isCrossedFrom 24 = .ok (.iload 6, 2) := by decide +kernel
theorem dX11_isCrossedFrom_26 : decode cX11_isCrossedFrom 26 = .ok (.if_icmp .ne 5, 3) := by decide +kernel
theorem dX11_isCrossedFrom_29 : decode cX11_isCrossedFrom 29 = .ok (.iconst 0, 1) := by decide +kernel
theorem dX11_isCrossedFrom_30 : decode cX11_isCrossedFrom 30 = .ok (.ireturn, 1) := by decide +kernel
theorem dX11_isCrossedFrom_31 : decode cX11_isCrossedFrom 31 = .ok (.iload_n 0, 1) := by decide +kernel
theorem dX11_isCrossedFrom_32 : decode cX11_isCrossedFrom 32 = .ok (.i2l, 1) := by decide +kernel
theorem dX11_isCrossedFrom_33 : decode cX11_isCrossedFrom 33 = .ok (.iload_n 1, 1) := by decide +kernel
theorem dX11_isCrossedFrom_34 : decode cX11_isCrossedFrom 34 = .ok (.i2l, 1) := by decide +kernel
theorem dX11_isCrossedFrom_35 : decode cX11_isCrossedFrom 35 = .ok (.iload_n 2, 1) := by decide +kernel
theorem dX11_isCrossedFrom_36 : decode cX11_isCrossedFrom 36 = .ok (.i2l, 1) := by decide +kernel
theorem dX11_isCrossedFrom_37 : decode cX11_isCrossedFrom 37 = .ok (.iload_n 3, 1) := by decide +kernel
theorem dX11_isCrossedFrom_38 : decode cX11_isCrossedFrom 38 = .ok (.i2l, 1) := by decide +kernel
theorem dX11_isCrossedFrom_39 : decode cX11_isCrossedFrom 39 = .ok (.iload 4, 2) := by decide +kernel
theorem dX11_isCrossedFrom_41 : decode cX11_isCrossedFrom 41 = .ok (.i2l, 1) := by decide +kernel
theorem dX11_isCrossedFrom_42 : decode cX11_isCrossedFrom 42 = .ok (.iload 5, 2) := by decide +kernel
theorem dX11_isCrossedFrom_44 : decode cX11_isCrossedFrom 44 = .ok (.i2l, 1) := by decide +kernel
theorem dX11_isCrossedFrom_45 : decode cX11_isCrossedFrom 45 = .ok (.invokestatic 354, 3) := by decide +kernel
theorem dX11_isCrossedFrom_48 : decode cX11_isCrossedFrom 48 = .ok (.istore 7, 2) := by decide +kernel
theorem dX11_isCrossedFrom_50 : decode cX11_isCrossedFrom 50 = .ok (.iload 6, 2) := by decide +kernel
theorem dX11_isCrossedFrom_52 : decode cX11_isCrossedFrom 52 = .ok (.ifCond .eq 16, 3) := by decide +kernel
theorem dX11_isCrossedFrom_55 : decode cX11_isCrossedFrom 55 = .ok (.iload 7, 2) := by decide +kernel
theorem dX11_isCrossedFrom_57 : decode cX11_isCrossedFrom 57 = .ok (.ifCond .le 7, 3) := by decide +kernel
theorem dX11_isCrossedFrom_60 : decode cX11_isCrossedFrom 60 = .ok (.iconst 1, 1) := by decide +kernel
theorem dX11_isCrossedFrom_61 : decode cX11_isCrossedFrom 61 = .ok (.goto 17, 3) := by decide +kernel
theorem dX11_isCrossedFrom_64 : decode cX11_isCrossedFrom 64 = .ok (.iconst 0, 1) := by decide +kernel
theorem dX11_isCrossedFrom_65 : decode cX11_isCrossedFrom 65 = .ok (.goto 13, 3) := by decide +kernel
theorem dX11_isCrossedFrom_68 : decode cX11_isCrossedFrom 68 = .ok (.iload 7, 2) := by decide +kernel
theorem dX11_isCrossedFrom_70 : decode cX11_isCrossedFrom 70 = .ok (.ifCond .ge 7, 3) := by decide +kernel
theorem dX11_isCrossedFrom_73 : decode cX11_isCrossedFrom 73 = .ok (.iconst 1, 1) := by decide +kernel
theorem dX11_isCrossedFrom_74 : decode cX11_isCrossedFrom 74 = .ok (.goto 4, 3) := by decide +kernel
theorem dX11_isCrossedFrom_77 : decode cX11_isCrossedFrom 77 = .ok (.iconst 0, 1) := by decide +kernel
theorem dX11_isCrossedFrom_78 : decode cX11_isCrossedFrom 78 = .ok (.ireturn, 1) := by decide +kernel
abbrev M_X11_isCrossedFrom : MRec := (yX11_isCrossedFrom, cX11_isCrossedFrom, 8, (some Jvm.ClassFile.FieldType.boolean), [])
theorem m_X11_isCrossedFrom : en_M M_X11_isCrossedFrom 6 := ⟨t_1326, t_1, ⟨by decide +kernel, by decide +kernel⟩, by decide +kernel, by decide +kernel, by decide +kernel⟩
theorem dX11_isOnSegment_0 : decode cX11_isOnSegment 0 = .ok (.iload 4, 2) := by decide +kernel
theorem dX11_isOnSegment_2 : decode cX11_isOnSegment 2 = .ok (.iload_n 0, 1) := by decide +kernel
theorem dX11_isOnSegment_3 : decode cX11_isOnSegment 3 = .ok (.iload_n 2, 1) := by decide +kernel
theorem dX11_isOnSegment_4 : decode cX11_isOnSegment 4 = .ok (.invokestatic 122, 3) := by decide +kernel
theorem dX11_isOnSegment_7 : decode cX11_isOnSegment 7 = .ok (.if_icmp .lt 57, 3) := by decide +kernel
theorem dX11_isOnSegment_10 : decode cX11_isOnSegment 10 = .ok (.iload 4, 2) := by decide +kernel
theorem dX11_isOnSegment_12 : decode cX11_isOnSegment 12 = .ok (.iload_n 0, 1) := by decide +kernel
theorem dX11_isOnSegment_13 : decode cX11_isOnSegment 13 = .ok (.iload_n 2, 1) := by decide +kernel
theorem dX11_isOnSegment_14 : decode cX11_isOnSegment 14 = .ok (.invokestatic 352, 3) := by decide +kernel
theorem dX11_isOnSegment_17 : decode cX11_isOnSegment 17 = .ok (.if_icmp .gt 47, 3) := by decide +kernel
theorem dX11_isOnSegment_20 : decode cX11_isOnSegment 20 = .ok (.iload 5, 2) := by decide +kernel
theorem dX11_isOnSegment_22 : decode cX11_isOnSegment 22 = .ok (.iload_n 1, 1) := by decide +kernel
theorem dX11_isOnSegment_23 : decode cX11_isOnSegment 23 = .ok (.iload_n 3, 1) := by decide +kernel
theorem dX11_isOnSegment_24 : decode cX11_isOnSegment 24 = .ok (.invokestatic 122, 3) := by decide +kernel
theorem dX11_isOnSegment_27 : decode cX11_isOnSegment 27 = .ok (.if_icmp .lt 37, 3) := by decide +kernel
theorem dX11_isOnSegment_30 : decode cX11_isOnSegment 30 = .ok (.iload 5, 2) := by decide +kernel
theorem dX11_isOnSegment_32 : decode cX11_isOnSegment 32 = .ok (.iload_n 1, 1) := by decide +kernel
theorem dX11_isOnSegment_33 : decode cX11_isOnSegment 33 = .ok (.iload_n 3, 1) := by decide +kernel
theorem dX11_isOnSegment_34 : decode cX11_isOnSegment 34 = .ok (.invokestatic 352, 3) := by decide +kernel
theorem dX11_isOnSegment_37 : decode cX11_isOnSegment 37 = .ok (.if_icmp .gt 27, 3) := by decide +kernel
theorem dX11_isOnSegment_40 : decode cX11_isOnSegment 40 = .ok (.iload_n 0, 1) := by decide +kernel
theorem dX11_isOnSegment_41 : decode cX11_isOnSegment 41 = .ok (.i2l, 1) := by decide +kernel
theorem dX11_isOnSegment_42 : decode cX11_isOnSegment 42 = .ok (.iload_n 1, 1) := by decide +kernel
theorem dX11_isOnSegment_43 : decode cX11_isOnSegment 43 = .ok (.i2l, 1) := by decide +kernel
theorem dX11_isOnSegment_44 : decode cX11_isOnSegment 44 = .ok (.iload_n 2, 1) := by decide +kernel
theorem dX11_isOnSegment_45 : decode cX11_isOnSegment 45 = .ok (.i2l, 1) := by decide +kernel
theorem dX11_isOnSegment_46 : decode cX11_isOnSegment 46 = .ok (.iload_n 3, 1) := by decide +kernel
theorem dX11_isOnSegment_47 : decode cX11_isOnSegment 47 = .ok (.i2l, 1) := by decide +kernel
theorem dX11_isOnSegment_48 : decode cX11_isOnSegment 48 = .ok (.iload 4, 2) := by decide +kernel
theorem dX11_isOnSegment_50 : decode cX11_isOnSegment 50 = .ok (.i2l, 1) := by decide +kernel
theorem dX11_isOnSegment_51 : decode cX11_isOnSegment 51 = .ok (.iload 5, 2) := by decide +kernel
theorem dX11_isOnSegment_53 : decode cX11_isOnSegment 53 = .ok (.i2l, 1) := by decide +kernel
theorem dX11_isOnSegment_54 : decode cX11_isOnSegment 54 = .ok (.invokestatic 354, 3) := by decide +kernel
theorem dX11_isOnSegment_57 : decode cX11_isOnSegment 57 = .ok (.ifCond .ne 7, 3) := by decide +kernel
theorem dX11_isOnSegment_60 : decode cX11_isOnSegment 60 = .ok (.iconst 1, 1) := by decide +kernel
theorem dX11_isOnSegment_61 : decode cX11_isOnSegment 61 = .ok (.goto 4, 3) := by decide +kernel
theorem dX11_isOnSegment_64 : decode cX11_isOnSegment 64 = .ok (.iconst 0, 1) := by decide +kernel
theorem dX11_isOnSegment_65 : decode cX11_isOnSegment 65 = .ok (.ireturn, 1) := by decide +kernel
abbrev M_X11_isOnSegment : MRec := (yX11_isOnSegment, cX11_isOnSegment, 6, (some Jvm.ClassFile.FieldType.boolean), [])
theorem m_X11_isOnSegment : en_M M_X11_isOnSegment 6 := ⟨t_1321, t_1, ⟨by decide +kernel, by decide +kernel⟩, by decide +kernel, by decide +kernel, by decide +kernel⟩
theorem dX1_whereIs_0 : decode cX1_whereIs 0 = .ok (.iconst 0, 1) := by decide +kernel
theorem dX1_whereIs_1 : decode cX1_whereIs 1 = .ok (.istore 4, 2) := by decide +kernel
theorem dX1_whereIs_3 : decode cX1_whereIs 3 = .ok (.aload_n 0, 1) := by decide +kernel
theorem dX1_whereIs_4 : decode cX1_whereIs 4 = .ok (.getfield 35, 3) := by decide +kernel
theorem dX1_whereIs_7 : decode cX1_whereIs 7 = .ok (.iload_n 1, 1) := by decide +kernel
theorem dX1_whereIs_8 : decode cX1_whereIs 8 = .ok (.iaload, 1) := by decide +kernel
theorem dX1_whereIs_9 : decode cX1_whereIs 9 = .ok (.istore 5, 2) := by decide +kernel
theorem dX1_whereIs_11 : decode cX1_whereIs 11 = .ok (.iload 5, 2) := by decide +kernel
theorem dX1_whereIs_13 : decode cX1_whereIs 13 = .ok (.aload_n 0, 1) := by decide +kernel
theorem dX1_whereIs_14 : decode cX1_whereIs 14 = .ok (.getfield 38, 3) := by decide +kernel
theorem dX1_whereIs_17 : decode cX1_whereIs 17 = .ok (.iload_n 1, 1) := by decide +kernel
theorem dX1_whereIs_18 : decode cX1_whereIs 18 = .ok (.iaload, 1) := by decide +kernel
theorem dX1_whereIs_19 : decode cX1_whereIs 19 = .ok (.if_icmp .ge 103, 3) := by decide +kernel
theorem dX1_whereIs_22 : decode cX1_whereIs 22 = .ok (.aload_n 0, 1) := by decide +kernel
theorem dX1_whereIs_23 : decode cX1_whereIs 23 = .ok (.getfield 22, 3) := by decide +kernel
theorem dX1_whereIs_26 : decode cX1_whereIs 26 = .ok (.getfield 182, 3) := by decide +kernel
theorem dX1_whereIs_29 : decode cX1_whereIs 29 = .ok (.iload 5, 2) := by decide +kernel
theorem dX1_whereIs_31 : decode cX1_whereIs 31 = .ok (.iaload, 1) := by decide +kernel
theorem dX1_whereIs_32 : decode cX1_whereIs 32 = .ok (.istore 6, 2) := by decide +kernel
theorem dX1_whereIs_34 : decode cX1_whereIs 34 = .ok (.aload_n 0, 1) := by decide +kernel
theorem dX1_whereIs_35 : decode cX1_whereIs 35 = .ok (.getfield 22, 3) := by decide +kernel
theorem dX1_whereIs_38 : decode cX1_whereIs 38 = .ok (.getfield 185, 3) := by decide +kernel
theorem dX1_whereIs_41 : decode cX1_whereIs 41 = .ok (.iload 5, 2) := by decide +kernel
theorem dX1_whereIs_43 : decode cX1_whereIs 43 = .ok (.iaload, 1) := by decide +kernel
theorem dX1_whereIs_44 : decode cX1_whereIs 44 = .ok (.istore 7, 2) := by decide +kernel
theorem dX1_whereIs_46 : decode cX1_whereIs 46 = .ok (.aload_n 0, 1) := by decide +kernel
theorem dX1_whereIs_47 : decode cX1_whereIs 47 = .ok (.getfield 22, 3) := by decide +kernel
theorem dX1_whereIs_50 : decode cX1_whereIs 50 = .ok (.getfield 172, 3) := by decide +kernel
theorem dX1_whereIs_53 : decode cX1_whereIs 53 = .ok (.iload 5, 2) := by decide +kernel
theorem dX1_whereIs_55 : decode cX1_whereIs 55 = .ok (.iaload, 1) := by decide +kernel
theorem dX1_whereIs_56 : decode cX1_whereIs 56 = .ok (.istore 8, 2) := by decide +kernel
theorem dX1_whereIs_58 : decode cX1_whereIs 58 = .ok (.aload_n 0, 1) := by decide +kernel
theorem dX1_whereIs_59 : decode cX1_whereIs 59 = .ok (.getfield 22, 3) := by decide +kernel
theorem dX1_whereIs_62 : decode cX1_whereIs 62 = .ok (.getfield 175, 3) := by decide +kernel
theorem dX1_whereIs_65 : decode cX1_whereIs 65 = .ok (.iload 5, 2) := by decide +kernel
theorem dX1_whereIs_67 : decode cX1_whereIs 67 = .ok (.iaload, 1) := by decide +kernel
theorem dX1_whereIs_68 : decode cX1_whereIs 68 = .ok (.istore 9, 2) := by decide +kernel
theorem dX1_whereIs_70 : decode cX1_whereIs 70 = .ok (.iload 6, 2) := by decide +kernel
theorem dX1_whereIs_72 : decode cX1_whereIs 72 = .ok (.iload 7, 2) := by decide +kernel
theorem dX1_whereIs_74 : decode cX1_whereIs 74 = .ok (.iload 8, 2) := by decide +kernel
theorem dX1_whereIs_76 : decode cX1_whereIs 76 = .ok (.iload 9, 2) := by decide +kernel
theorem dX1_whereIs_78 : decode cX1_whereIs 78 = .ok (.iload_n 2, 1) := by decide +kernel
theorem dX1_whereIs_79 : decode cX1_whereIs 79 = .ok (.iload_n 3, 1) := by decide +kernel
theorem dX1_whereIs_80 : decode cX1_whereIs 80 = .ok (.invokestatic 201, 3) := by decide +kernel
theorem dX1_whereIs_83 : decode cX1_whereIs 83 = .ok (.ifCond .eq 5, 3) := by decide +kernel
theorem dX1_whereIs_86 : decode cX1_whereIs 86 = .ok (.iconst 1, 1) := by decide +kernel
theorem dX1_whereIs_87 : decode cX1_whereIs 87 = .ok (.ireturn, 1) := by decide +kernel
theorem dX1_whereIs_88 : decode cX1_whereIs 88 = .ok (.iload 6, 2) := by decide +kernel
theorem dX1_whereIs_90 : decode cX1_whereIs 90 = .ok (.iload 7, 2) := by decide +kernel
theorem dX1_whereIs_92 : decode cX1_whereIs 92 = .ok (.iload 8, 2) := by decide +kernel
theorem dX1_whereIs_94 : decode cX1_whereIs 94 = .ok (.iload 9, 2) := by decide +kernel
theorem dX1_whereIs_96 : decode cX1_whereIs 96 = .ok (.iload_n 2, 1) := by decide +kernel
theorem dX1_whereIs_97 : decode cX1_whereIs 97 = .ok (.iload_n 3, 1) := by decide +kernel
theorem dX1_whereIs_98 : decode cX1_whereIs 98 = .ok (.invokestatic 205, 3) := by decide +kernel
theorem dX1_whereIs_101 : decode cX1_whereIs 101 = .ok (.ifCond .eq 15, 3) := by decide +kernel
theorem dX1_whereIs_104 : decode cX1_whereIs 104 = .ok (.iload 4, 2) := by decide +kernel
theorem dX1_whereIs_106 : decode cX1_whereIs 106 = .ok (.ifCond .ne 7, 3) := by decide +kernel
theorem dX1_whereIs_109 : decode cX1_whereIs 109 = .ok (.iconst 1, 1) := by decide +kernel
theorem dX1_whereIs_110 : decode cX1_whereIs 110 = .ok (.goto 4, 3) := by decide +kernel
theorem dX1_whereIs_113 : decode cX1_whereIs 113 = .ok (.iconst 0, 1) := by decide +kernel
theorem dX1_whereIs_114 : decode cX1_whereIs 114 = .ok (.istore 4, 2) := by decide +kernel
theorem dX1_whereIs_116 : decode cX1_whereIs 116 = .ok (.iinc 5 1, 3) := by decide +kernel
theorem dX1_whereIs_119 : decode cX1_whereIs 119 = .ok (.goto (-108), 3) := by decide +kernel
theorem dX1_whereIs_122 : decode cX1_whereIs 122 = .ok (.iload 4, 2) := by decide +kernel
theorem dX1_whereIs_124 : decode cX1_whereIs 124 = .ok (.ifCond .eq 7, 3) := by decide +kernel
theorem dX1_whereIs_127 : decode cX1_whereIs 127 = .ok (.iconst 0, 1) := by decide +kernel
theorem dX1_whereIs_128 : decode cX1_whereIs 128 = .ok (.goto 4, 3) := by decide +kernel
theorem dX1_whereIs_131 : decode cX1_whereIs 131 = .ok (.iconst 2, 1) := by decide +kernel
theorem dX1_whereIs_132 : decode cX1_whereIs 132 = .ok (.ireturn, 1) := by decide +kernel
abbrev M_X1_whereIs : MRec := (yX1_whereIs, cX1_whereIs, 10, (some Jvm.ClassFile.FieldType.int), [])
theorem m_X1_whereIs : en_M M_X1_whereIs 3 := ⟨t_1318, t_6, ⟨by decide +kernel, by decide +kernel⟩, by decide +kernel, by decide +kernel, by decide +kernel⟩
theorem dX1_liesIn_0 : decode cX1_liesIn 0 = .ok (.aload_n 0, 1) := by decide +kernel
theorem dX1_liesIn_1 : decode cX1_liesIn 1 = .ok (.getfield 35, 3) := by decide +kernel
theorem dX1_liesIn_4 : decode cX1_liesIn 4 = .ok (.iload_n 1, 1) := by decide +kernel
theorem dX1_liesIn_5 : decode cX1_liesIn 5 = .ok (.iaload, 1) := by decide +kernel
theorem dX1_liesIn_6 : decode cX1_liesIn 6 = .ok (.istore_n 3, 1) := by decide +kernel
theorem dX1_liesIn_7 : decode cX1_liesIn 7 = .ok (.iload_n 3, 1) := by decide +kernel
theorem dX1_liesIn_8 : decode cX1_liesIn 8 = .ok (.aload_n 0, 1) := by decide +kernel
theorem dX1_liesIn_9 : decode cX1_liesIn 9 = .ok (.getfield 38, 3) := by decide +kernel
theorem dX1_liesIn_12 : decode cX1_liesIn 12 = .ok (.iload_n 1, 1) := by decide +kernel
theorem dX1_liesIn_13 : decode cX1_liesIn 13 = .ok (.iaload, 1) := by decide +kernel
theorem dX1_liesIn_14 : decode cX1_liesIn 14 = .ok (.if_icmp .ge 51, 3) := by decide +kernel
theorem dX1_liesIn_17 : decode cX1_liesIn 17 = .ok (.aload_n 0, 1) := by decide +kernel
theorem dX1_liesIn_18 : decode cX1_liesIn 18 = .ok (.iload_n 2, 1) := by decide +kernel
theorem dX1_liesIn_19 : decode cX1_liesIn 19 = .ok (.aload_n 0, 1) := by decide +kernel
theorem dX1_liesIn_20 : decode cX1_liesIn 20 = .ok (.getfield 22, 3) := by decide +kernel
theorem dX1_liesIn_23 : decode cX1_liesIn 23 = .ok (.getfield 182, 3) := by decide +kernel
theorem dX1_liesIn_26 : decode cX1_liesIn 26 = .ok (.iload_n 3, 1) := by decide +kernel
theorem dX1_liesIn_27 : decode cX1_liesIn 27 = .ok (.iaload, 1) := by decide +kernel
theorem dX1_liesIn_28 : decode cX1_liesIn 28 = .ok (.aload_n 0, 1) := by decide +kernel
theorem dX1_liesIn_29 : decode cX1_liesIn 29 = .ok (.getfield 22, 3) := by decide +kernel
theorem dX1_liesIn_32 : decode cX1_liesIn 32 = .ok (.getfield 185, 3) := by decide +kernel
theorem dX1_liesIn_35 : decode cX1_liesIn 35 = .ok (.iload_n 3, 1) := by decide +kernel
theorem dX1_liesIn_36 : decode cX1_liesIn 36 = .ok (.iaload, 1) := by decide +kernel
theorem dX1_liesIn_37 : decode cX1_liesIn 37 = .ok (.invokevirtual 195, 3) := by decide +kernel
theorem dX1_liesIn_40 : decode cX1_liesIn 40 = .ok (.istore 4, 2) := by decide +kernel
theorem dX1_liesIn_42 : decode cX1_liesIn 42 = .ok (.iload 4, 2) := by decide +kernel
theorem dX1_liesIn_44 : decode cX1_liesIn 44 = .ok (.iconst 1, 1) := by decide +kernel
theorem dX1_liesIn_45 : decode cX1_liesIn 45 = .ok (.if_icmp .eq 14, 3) := by decide +kernel
theorem dX1_liesIn_48 : decode cX1_liesIn 48 = .ok (.iload 4, 2) := by decide +kernel
theorem dX1_liesIn_50 : decode cX1_liesIn 50 = .ok (.ifCond .ne 7, 3) := by decide +kernel
theorem dX1_liesIn_53 : decode cX1_liesIn 53 = .ok (.iconst 1, 1) := by decide +kernel
theorem dX1_liesIn_54 : decode cX1_liesIn 54 = .ok (.goto 4, 3) := by decide +kernel
theorem dX1_liesIn_57 : decode cX1_liesIn 57 = .ok (.iconst 0, 1) := by decide +kernel
theorem dX1_liesIn_58 : decode cX1_liesIn 58 = .ok (.ireturn, 1) := by decide +kernel
theorem dX1_liesIn_59 : decode cX1_liesIn 59 = .ok (.iinc 3 1, 3) := by decide +kernel
theorem dX1_liesIn_62 : decode cX1_liesIn 62 = .ok (.goto (-55), 3) := by decide +kernel
theorem dX1_liesIn_65 : decode cX1_liesIn 65 = .ok (.aload_n 0, 1) := by decide +kernel
theorem dX1_liesIn_66 : decode cX1_liesIn 66 = .ok (.getfield 35, 3) := by decide +kernel
theorem dX1_liesIn_69 : decode cX1_liesIn 69 = .ok (.iload_n 1, 1) := by decide +kernel
theorem dX1_liesIn_70 : decode cX1_liesIn 70 = .ok (.iaload, 1) := by decide +kernel
theorem dX1_liesIn_71 : decode cX1_liesIn 71 = .ok (.aload_n 0, 1) := by decide +kernel
theorem dX1_liesIn_72 : decode cX1_liesIn 72 = .ok (.getfield 38, 3) := by decide +kernel
theorem dX1_liesIn_75 : decode cX1_liesIn 75 = .ok (.iload_n 1, 1) := by decide +kernel
theorem dX1_liesIn_76 : decode cX1_liesIn 76 = .ok (.iaload, 1) := by decide +kernel
theorem dX1_liesIn_77 : decode cX1_liesIn 77 = .ok (.if_icmp .ge 21, 3) := by decide +kernel
theorem dX1_liesIn_80 : decode cX1_liesIn 80 = .ok (.aload_n 0, 1) := by decide +kernel
theorem dX1_liesIn_81 : decode cX1_liesIn 81 = .ok (.iload_n 2, 1) := by decide +kernel
theorem dX1_liesIn_82 : decode cX1_liesIn 82 = .ok (.aload_n 0, 1) := by decide +kernel
theorem dX1_liesIn_83 : decode cX1_liesIn 83 = .ok (.getfield 35, 3) := by decide +kernel
theorem dX1_liesIn_86 : decode cX1_liesIn 86 = .ok (.iload_n 1, 1) := by decide +kernel
theorem dX1_liesIn_87 : decode cX1_liesIn 87 = .ok (.iaload, 1) := by decide +kernel
theorem dX1_liesIn_88 : decode cX1_liesIn 88 = .ok (.invokevirtual 198, 3) := by decide +kernel
theorem dX1_liesIn_91 : decode cX1_liesIn 91 = .ok (.ifCond .eq 7, 3) := by decide +kernel
theorem dX1_liesIn_94 : decode cX1_liesIn 94 = .ok (.iconst 1, 1) := by decide +kernel
theorem dX1_liesIn_95 : decode cX1_liesIn 95 = .ok (.goto 4, 3) := by decide +kernel
theorem dX1_liesIn_98 : decode cX1_liesIn 98 = .ok (.iconst 0, 1) := by decide +kernel
theorem dX1_liesIn_99 : decode cX1_liesIn 99 = .ok (.ireturn, 1) := by decide +kernel
abbrev M_X1_liesIn : MRec := (yX1_liesIn, cX1_liesIn, 5, (some Jvm.ClassFile.FieldType.boolean), [])
theorem m_X1_liesIn : en_M M_X1_liesIn 2 := ⟨t_1314, t_6, ⟨by decide +kernel, by decide +kernel⟩, by decide +kernel, by decide +kernel, by decide +kernel⟩
theorem dX1_liesInPart_0 : decode cX1_liesInPart 0 = .ok (.aload_n 0, 1) := by decide +kernel
theorem dX1_liesInPart_1 : decode cX1_liesInPart 1 = .ok (.iload_n 1, 1) := by decide +kernel
theorem dX1_liesInPart_2 : decode cX1_liesInPart 2 = .ok (.invokevirtual 135, 3) := by decide +kernel
theorem dX1_liesInPart_5 : decode cX1_liesInPart 5 = .ok (.ifCond .ne 11, 3) := by decide +kernel
theorem dX1_liesInPart_8 : decode cX1_liesInPart 8 = .ok (.aload_n 0, 1) := by decide +kernel
theorem dX1_liesInPart_9 : decode cX1_liesInPart 9 = .ok (.iload_n 2, 1) := by decide +kernel
theorem dX1_liesInPart_10 : decode cX1_liesInPart 10 = .ok (.invokevirtual 135, 3) := by decide +kernel
theorem dX1_liesInPart_13 : decode cX1_liesInPart 13 = .ok (.ifCond .eq 5, 3) := by decide +kernel
theorem dX1_liesInPart_16 : decode cX1_liesInPart 16 = .ok (.iconst 0, 1) := by decide +kernel
theorem dX1_liesInPart_17 : decode cX1_liesInPart 17 = .ok (.ireturn, 1) := by decide +kernel
theorem dX1_liesInPart_18 : decode cX1_liesInPart 18 = .ok (.aload_n 0, 1) := by decide +kernel
theorem dX1_liesInPart_19 : decode cX1_liesInPart 19 = .ok (.getfield 41, 3) := by decide +kernel
theorem dX1_liesInPart_22 : decode cX1_liesInPart 22 = .ok (.iload_n 1, 1) := by decide +kernel
theorem dX1_liesInPart_23 : decode cX1_liesInPart 23 = .ok (.iaload, 1) := by decide +kernel
theorem dX1_liesInPart_24 : decode cX1_liesInPart 24 = .ok (.istore_n 3, 1) := by decide +kernel
theorem dX1_liesInPart_25 : decode cX1_liesInPart 25 = .ok (.aload_n 0, 1) := by decide +kernel
theorem dX1_liesInPart_26 : decode cX1_liesInPart 26 = .ok (.iload_n 3, 1) := by decide +kernel
theorem dX1_liesInPart_27 : decode cX1_liesInPart 27 = .ok (.aload_n 0, 1) := by decide +kernel
theorem dX1_liesInPart_28 : decode cX1_liesInPart 28 = .ok (.getfield 41, 3) := by decide +kernel
theorem dX1_liesInPart_31 : decode cX1_liesInPart 31 = .ok (.iload_n 2, 1) := by decide +kernel
theorem dX1_liesInPart_32 : decode cX1_liesInPart 32 = .ok (.iaload, 1) := by decide +kernel
theorem dX1_liesInPart_33 : decode cX1_liesInPart 33 = .ok (.invokevirtual 192, 3) := by decide +kernel
theorem dX1_liesInPart_36 : decode cX1_liesInPart 36 = .ok (.ifCond .ne 5, 3) := by decide +kernel
theorem dX1_liesInPart_39 : decode cX1_liesInPart 39 = .ok (.iconst 0, 1) := by decide +kernel
theorem dX1_liesInPart_40 : decode cX1_liesInPart 40 = .ok (.ireturn, 1) := by decide +kernel
theorem dX1_liesInPart_41 : decode cX1_liesInPart 41 = .ok (.aload_n 0, 1) := by decide +kernel
theorem dX1_liesInPart_42 : decode cX1_liesInPart 42 = .ok (.getfield 41, 3) := by decide +kernel
theorem dX1_liesInPart_45 : decode cX1_liesInPart 45 = .ok (.iload_n 2, 1) := by decide +kernel
theorem dX1_liesInPart_46 : decode cX1_liesInPart 46 = .ok (.iaload, 1) := by decide +kernel
theorem dX1_liesInPart_47 : decode cX1_liesInPart 47 = .ok (.iconst 1, 1) := by decide +kernel
theorem dX1_liesInPart_48 : decode cX1_liesInPart 48 = .ok (.iadd, 1) := by decide +kernel
theorem dX1_liesInPart_49 : decode cX1_liesInPart 49 = .ok (.istore 4, 2) := by decide +kernel
theorem dX1_liesInPart_51 : decode cX1_liesInPart 51 = .ok (.iload 4, 2) := by decide +kernel
theorem dX1_liesInPart_53 : decode cX1_liesInPart 53 = .ok (.aload_n 0, 1) := by decide +kernel
theorem dX1_liesInPart_54 : decode cX1_liesInPart 54 = .ok (.getfield 44, 3) := by decide +kernel
theorem dX1_liesInPart_57 : decode cX1_liesInPart 57 = .ok (.iload_n 2, 1) := by decide +kernel
theorem dX1_liesInPart_58 : decode cX1_liesInPart 58 = .ok (.iaload, 1) := by decide +kernel
theorem dX1_liesInPart_59 : decode cX1_liesInPart 59 = .ok (.if_icmp .ge 21, 3) := by decide +kernel
theorem dX1_liesInPart_62 : decode cX1_liesInPart 62 = .ok (.aload_n 0, 1) := by decide +kernel
theorem dX1_liesInPart_63 : decode cX1_liesInPart 63 = .ok (.iload_n 3, 1) := by decide +kernel
theorem dX1_liesInPart_64 : decode cX1_liesInPart 64 = .ok (.iload 4, 2) := by decide +kernel
theorem dX1_liesInPart_66 : decode cX1_liesInPart 66 = .ok (.invokevirtual 192, 3) := by decide +kernel
theorem dX1_liesInPart_69 : decode cX1_liesInPart 69 = .ok (.ifCond .eq 5, 3) := by decide +kernel
theorem dX1_liesInPart_72 : decode cX1_liesInPart 72 = .ok (.iconst 0, 1) := by decide +kernel
theorem dX1_liesInPart_73 : decode cX1_liesInPart 73 = .ok (.ireturn, 1) := by decide +kernel
theorem dX1_liesInPart_74 : decode cX1_liesInPart 74 = .ok (.iinc 4 1, 3) := by decide +kernel
theorem dX1_liesInPart_77 : decode cX1_liesInPart 77 = .ok (.goto (-26), 3) := by decide +kernel
theorem dX1_liesInPart_80 : decode cX1_liesInPart 80 = .ok (.iconst 1, 1) := by decide +kernel
theorem dX1_liesInPart_81 : decode cX1_liesInPart 81 = .ok (.ireturn, 1) := by decide +kernel
abbrev M_X1_liesInPart : MRec := (yX1_liesInPart, cX1_liesInPart, 5, (some Jvm.ClassFile.FieldType.boolean), [])
theorem m_X1_liesInPart : en_M M_X1_liesInPart 2 := ⟨t_1361, t_6, ⟨by decide +kernel, by decide +kernel⟩, by decide +kernel, by decide +kernel, by decide +kernel⟩
theorem dX1_tell_0 : decode cX1_tell 0 = .ok (.aload_n 0, 1) := by decide +kernel
theorem dX1_tell_1 : decode cX1_tell 1 = .ok (.getfield 11, 3) := by decide +kernel
theorem dX1_tell_4 : decode cX1_tell 4 = .ok (.iconst 1, 1) := by decide +kernel
theorem dX1_tell_5 : decode cX1_tell 5 = .ok (.iload_n 2, 1) := by decide +kernel
theorem dX1_tell_6 : decode cX1_tell 6 = .ok (.iastore, 1) := by decide +kernel
theorem dX1_tell_7 : decode cX1_tell 7 = .ok (.aload_n 0, 1) := by decide +kernel
theorem dX1_tell_8 : decode cX1_tell 8 = .ok (.getfield 11, 3) := by decide +kernel
theorem dX1_tell_11 : decode cX1_tell 11 = .ok (.iconst 2, 1) := by decide +kernel
theorem dX1_tell_12 : decode cX1_tell 12 = .ok (.iload_n 3, 1) := by decide +kernel
theorem dX1_tell_13 : decode cX1_tell 13 = .ok (.iastore, 1) := by decide +kernel
theorem dX1_tell_14 : decode cX1_tell 14 = .ok (.iload_n 1, 1) := by decide +kernel
theorem dX1_tell_15 : decode cX1_tell 15 = .ok (.ireturn, 1) := by decide +kernel
abbrev M_X1_tell : MRec := (yX1_tell, cX1_tell, 4, (some Jvm.ClassFile.FieldType.int), [])
theorem m_X1_tell : en_M M_X1_tell 3 := ⟨t_1209, t_6, ⟨by decide +kernel, by decide +kernel⟩, by decide +kernel, by decide +kernel, by decide +kernel⟩
theorem dX1_innerFault_0 : decode cX1_innerFault 0 = .ok (.iconst 0, 1) := by decide +kernel
theorem dX1_innerFault_1 : decode cX1_innerFault 1 = .ok (.istore_n 2, 1) := by decide +kernel
theorem dX1_innerFault_2 : decode cX1_innerFault 2 = .ok (.iload_n 2, 1) := by decide +kernel
theorem dX1_innerFault_3 : decode cX1_innerFault 3 = .ok (.iload_n 1, 1) := by decide +kernel
theorem dX1_innerFault_4 : decode cX1_innerFault 4 = .ok (.if_icmp .ge 58, 3) := by decide +kernel
theorem dX1_innerFault_7 : decode cX1_innerFault 7 = .ok (.iload_n 2, 1) := by decide +kernel
theorem dX1_innerFault_8 : decode cX1_innerFault 8 = .ok (.iconst 1, 1) := by decide +kernel
theorem dX1_innerFault_9 : decode cX1_innerFault 9 = .ok (.iadd, 1) := by decide +kernel
theorem dX1_innerFault_10 : decode cX1_innerFault 10 = .ok (.istore_n 3, 1) := by decide +kernel
theorem dX1_innerFault_11 : decode cX1_innerFault 11 = .ok (.iload_n 3, 1) := by decide +kernel
theorem dX1_innerFault_12 : decode cX1_innerFault 12 = .ok (.iload_n 1, 1) := by decide +kernel
theorem dX1_innerFault_13 : decode cX1_innerFault 13 = .ok (.if_icmp .ge 43, 3) := by decide +kernel
theorem dX1_innerFault_16 : decode cX1_innerFault 16 = .ok (.aload_n 0, 1) := by decide +kernel
theorem dX1_innerFault_17 : decode cX1_innerFault 17 = .ok (.iload_n 2, 1) := by decide +kernel
theorem dX1_innerFault_18 : decode cX1_innerFault 18 = .ok (.iload_n 3, 1) := by decide +kernel
theorem dX1_innerFault_19 : decode cX1_innerFault 19 = .ok (.invokevirtual 220, 3) := by decide +kernel
theorem dX1_innerFault_22 : decode cX1_innerFault 22 = .ok (.ifCond .ne 12, 3) := by decide +kernel
theorem dX1_innerFault_25 : decode cX1_innerFault 25 = .ok (.aload_n 0, 1) := by decide +kernel
theorem dX1_innerFault_26 : decode cX1_innerFault 26 = .ok (.iload_n 3, 1) := by decide +kernel
theorem dX1_innerFault_27 : decode cX1_innerFault 27 = .ok (.iload_n 2, 1) := by decide +kernel
theorem dX1_innerFault_28 : decode cX1_innerFault 28 = .ok (.invokevirtual 220, 3) := by decide +kernel
theorem dX1_innerFault_31 : decode cX1_innerFault 31 = .ok (.ifCond .eq 19, 3) := by decide +kernel
theorem dX1_innerFault_34 : decode cX1_innerFault 34 = .ok (.aload_n 0, 1) := by decide +kernel
theorem dX1_innerFault_35 : decode cX1_innerFault 35 = .ok (.getfield 11, 3) := by decide +kernel
theorem dX1_innerFault_38 : decode cX1_innerFault 38 = .ok (.iconst 4, 1) := by decide +kernel
theorem dX1_innerFault_39 : decode cX1_innerFault 39 = .ok (.iload_n 3, 1) := by decide +kernel
theorem dX1_innerFault_40 : decode cX1_innerFault 40 = .ok (.iastore, 1) := by decide +kernel
theorem dX1_innerFault_41 : decode cX1_innerFault 41 = .ok (.aload_n 0, 1) := by decide +kernel
theorem dX1_innerFault_42 : decode cX1_innerFault 42 = .ok (.bipush 11, 2) := by decide +kernel
theorem dX1_innerFault_44 : decode cX1_innerFault 44 = .ok (.iload_n 2, 1) := by decide +kernel
theorem dX1_innerFault_45 : decode cX1_innerFault 45 = .ok (.iconst (-1), 1) := by decide +kernel
theorem dX1_innerFault_46 : decode cX1_innerFault 46 = .ok (.invokevirtual 108, 3) := by decide +kernel
theorem dX1_innerFault_49 : decode cX1_innerFault 49 = .ok (.ireturn, 1) := by decide +kernel
theorem dX1_innerFault_50 : decode cX1_innerFault 50 = .ok (.iinc 3 1, 3) := by decide +kernel
theorem dX1_innerFault_53 : decode cX1_innerFault 53 = .ok (.goto (-42), 3) := by decide +kernel
theorem dX1_innerFault_56 : decode cX1_innerFault 56 = .ok (.iinc 2 1, 3) := by decide +kernel
theorem dX1_innerFault_59 : decode cX1_innerFault 59 = .ok (.goto (-57), 3) := by decide +kernel
theorem dX1_innerFault_62 : decode cX1_innerFault 62 = .ok (.iconst 0, 1) := by decide +kernel
theorem dX1_innerFault_63 : decode cX1_innerFault 63 = .ok (.ireturn, 1) := by decide +kernel
abbrev M_X1_innerFault : MRec := (yX1_innerFault, cX1_innerFault, 4, (some Jvm.ClassFile.FieldType.int), [])
theorem m_X1_innerFault : en_M M_X1_innerFault 1 := ⟨t_1357, t_6, ⟨by decide +kernel, by decide +kernel⟩, by decide +kernel, by decide +kernel, by decide +kernel⟩
theorem dX6_areLike_0 : decode cX6_areLike 0 = .ok (.aload_n 0, 1) := by decide +kernel
theorem dX6_areLike_1 : decode cX6_areLike 1 = .ok (.getfield 15, 3) := by decide +kernel
theorem dX6_areLike_4 : decode cX6_areLike 4 = .ok (.iload_n 1, 1) := by decide +kernel
theorem dX6_areLike_5 : decode cX6_areLike 5 = .ok (.iaload, 1) := by decide +kernel
theorem dX6_areLike_6 : decode cX6_areLike 6 = .ok (.aload_n 0, 1) := by decide +kernel
theorem dX6_areLike_7 : decode cX6_areLike 7 = .ok (.getfield 15, 3) := by decide +kernel
theorem dX6_areLike_10 : decode cX6_areLike 10 = .ok (.iload_n 2, 1) := by decide +kernel
theorem dX6_areLike_11 : decode cX6_areLike 11 = .ok (.iaload, 1) := by decide +kernel
theorem dX6_areLike_12 : decode cX6_areLike 12 = .ok (.if_icmp .ne 22, 3) := by decide +kernel
theorem dX6_areLike_15 : decode cX6_areLike 15 = .ok (.aload_n 0, 1) := by decide +kernel
theorem dX6_areLike_16 : decode cX6_areLike 16 = .ok (.getfield 18, 3) := by decide +kernel
theorem dX6_areLike_19 : decode cX6_areLike 19 = .ok (.iload_n 1, 1) := by decide +kernel
theorem dX6_areLike_20 : decode cX6_areLike 20 = .ok (.iaload, 1) := by decide +kernel
theorem dX6_areLike_21 : decode cX6_areLike 21 = .ok (.aload_n 0, 1) := by decide +kernel
theorem dX6_areLike_22 : decode cX6_areLike 22 = .ok (.getfield 18, 3) := by decide +kernel
theorem dX6_areLike_25 : decode cX6_areLike 25 = .ok (.iload_n 2, 1) := by decide +kernel
theorem dX6_areLike_26 : decode cX6_areLike 26 = .ok (.iaload, 1) := by decide +kernel
theorem dX6_areLike_27 : decode cX6_areLike 27 = .ok (.if_icmp .ne 7, 3) := by decide +kernel
theorem dX6_areLike_30 : decode cX6_areLike 30 = .ok (.iconst 1, 1) := by decide +kernel
theorem dX6_areLike_31 : decode cX6_areLike 31 = .ok (.goto 4, 3) := by decide +kernel
theorem dX6_areLike_34 : decode cX6_areLike 34 = .ok (.iconst 0, 1) := by decide +kernel
theorem dX6_areLike_35 : decode cX6_areLike 35 = .ok (.ireturn, 1) := by decide +kernel
abbrev M_X6_areLike : MRec := (yX6_areLike, cX6_areLike, 3, (some Jvm.ClassFile.FieldType.boolean), [])
theorem m_X6_areLike : en_M M_X6_areLike 2 := ⟨t_1190, t_2, ⟨by decide +kernel, by decide +kernel⟩, by decide +kernel, by decide +kernel, by decide +kernel⟩
theorem dX1_isOfOnePlace_0 : decode cX1_isOfOnePlace 0 = .ok (.iconst 1, 1) := by decide +kernel
theorem dX1_isOfOnePlace_1 : decode cX1_isOfOnePlace 1 = .ok (.istore_n 3, 1) := by decide +kernel
theorem dX1_isOfOnePlace_2 : decode cX1_isOfOnePlace 2 = .ok (.iload_n 3, 1) := by decide +kernel
theorem dX1_isOfOnePlace_3 : decode cX1_isOfOnePlace 3 = .ok (.iload_n 2, 1) := by decide +kernel
theorem dX1_isOfOnePlace_4 : decode cX1_isOfOnePlace 4 = .ok (.if_icmp .ge 22, 3) := by decide +kernel
theorem dX1_isOfOnePlace_7 : decode cX1_isOfOnePlace 7 = .ok (.aload_n 0, 1) := by decide +kernel
theorem dX1_isOfOnePlace_8 : decode cX1_isOfOnePlace 8 = .ok (.iload_n 1, 1) := by decide +kernel
theorem dX1_isOfOnePlace_9 : decode cX1_isOfOnePlace 9 = .ok (.iload_n 1, 1) := by decide +kernel
theorem dX1_isOfOnePlace_10 : decode cX1_isOfOnePlace 10 = .ok (.iload_n 3, 1) := by decide +kernel
theorem dX1_isOfOnePlace_11 : decode cX1_isOfOnePlace 11 = .ok (.iadd, 1) := by decide +kernel
theorem dX1_isOfOnePlace_12 : decode cX1_isOfOnePlace 12 = .ok (.invokevirtual 81, 3) := by decide +kernel
theorem dX1_isOfOnePlace_15 : decode cX1_isOfOnePlace 15 = .ok (.ifCond .ne 5, 3) := by decide +kernel
theorem dX1_isOfOnePlace_18 : decode cX1_isOfOnePlace 18 = .ok (.iconst 0, 1) := by decide +kernel
theorem dX1_isOfOnePlace_19 : decode cX1_isOfOnePlace 19 = .ok (.ireturn, 1) := by decide +kernel
theorem dX1_isOfOnePlace_20 : decode cX1_isOfOnePlace 20 = .ok (.iinc 3 1, 3) := by decide +kernel
theorem dX1_isOfOnePlace_23 : decode cX1_isOfOnePlace 23 = .ok (.goto (-21), 3) := by decide +kernel
theorem dX1_isOfOnePlace_26 : decode cX1_isOfOnePlace 26 = .ok (.iload_n 2, 1) := by decide +kernel
theorem dX1_isOfOnePlace_27 : decode cX1_isOfOnePlace 27 = .ok (.ifCond .le 7, 3) := by decide +kernel
theorem dX1_isOfOnePlace_30 : decode cX1_isOfOnePlace 30 = .ok (.iconst 1, 1) := by decide +kernel
theorem dX1_isOfOnePlace_31 : decode cX1_isOfOnePlace 31 = .ok (.goto 4, 3) := by decide +kernel
theorem dX1_isOfOnePlace_34 : decode cX1_isOfOnePlace 34 = .ok (.iconst 0, 1) := by decide +kernel
theorem dX1_isOfOnePlace_35 : decode cX1_isOfOnePlace 35 = .ok (.ireturn, 1) := by decide +kernel
abbrev M_X1_isOfOnePlace : MRec := (yX1_isOfOnePlace, cX1_isOfOnePlace, 4, (some Jvm.ClassFile.FieldType.boolean), [])
theorem m_X1_isOfOnePlace : en_M M_X1_isOfOnePlace 3 := ⟨t_1186, t_6, ⟨by decide +kernel, by decide +kernel⟩, by decide +kernel, by decide +kernel, by decide +kernel⟩
theorem dX1_holesFault_0 : decode cX1_holesFault 0 = .ok (.aload_n 0, 1) := by decide +kernel
theorem dX1_holesFault_1 : decode cX1_holesFault 1 = .ok (.iload_n 1, 1) := by decide +kernel
theorem dX1_holesFault_2 : decode cX1_holesFault 2 = .ok (.invokevirtual 135, 3) := by decide +kernel
theorem dX1_holesFault_5 : decode cX1_holesFault 5 = .ok (.ifCond .eq 5, 3) := by decide +kernel
theorem dX1_holesFault_8 : decode cX1_holesFault 8 = .ok (.iconst 0, 1) := by decide +kernel
theorem dX1_holesFault_9 : decode cX1_holesFault 9 = .ok (.ireturn, 1) := by decide +kernel
theorem dX1_holesFault_10 : decode cX1_holesFault 10 = .ok (.aload_n 0, 1) := by decide +kernel
theorem dX1_holesFault_11 : decode cX1_holesFault 11 = .ok (.getfield 41, 3) := by decide +kernel
theorem dX1_holesFault_14 : decode cX1_holesFault 14 = .ok (.iload_n 1, 1) := by decide +kernel
theorem dX1_holesFault_15 : decode cX1_holesFault 15 = .ok (.iaload, 1) := by decide +kernel
theorem dX1_holesFault_16 : decode cX1_holesFault 16 = .ok (.istore_n 2, 1) := by decide +kernel
theorem dX1_holesFault_17 : decode cX1_holesFault 17 = .ok (.iload_n 2, 1) := by decide +kernel
theorem dX1_holesFault_18 : decode cX1_holesFault 18 = .ok (.iconst 1, 1) := by decide +kernel
theorem dX1_holesFault_19 : decode cX1_holesFault 19 = .ok (.iadd, 1) := by decide +kernel
theorem dX1_holesFault_20 : decode cX1_holesFault 20 = .ok (.istore_n 3, 1) := by decide +kernel
theorem dX1_holesFault_21 : decode cX1_holesFault 21 = .ok (.iload_n 3, 1) := by decide +kernel
theorem dX1_holesFault_22 : decode cX1_holesFault 22 = .ok (.aload_n 0, 1) := by decide +kernel
theorem dX1_holesFault_23 : decode cX1_holesFault 23 = .ok (.getfield 44, 3) := by decide +kernel
theorem dX1_holesFault_26 : decode cX1_holesFault 26 = .ok (.iload_n 1, 1) := by decide +kernel
theorem dX1_holesFault_27 : decode cX1_holesFault 27 = .ok (.iaload, 1) := by decide +kernel
theorem dX1_holesFault_28 : decode cX1_holesFault 28 = .ok (.if_icmp .ge 32, 3) := by decide +kernel
theorem dX1_holesFault_31 : decode cX1_holesFault 31 = .ok (.aload_n 0, 1) := by decide +kernel
theorem dX1_holesFault_32 : decode cX1_holesFault 32 = .ok (.iload_n 3, 1) := by decide +kernel
theorem dX1_holesFault_33 : decode cX1_holesFault 33 = .ok (.iload_n 2, 1) := by decide +kernel
theorem dX1_holesFault_34 : decode cX1_holesFault 34 = .ok (.invokevirtual 192, 3) := by decide +kernel
theorem dX1_holesFault_37 : decode cX1_holesFault 37 = .ok (.ifCond .ne 17, 3) := by decide +kernel
theorem dX1_holesFault_40 : decode cX1_holesFault 40 = .ok (.aload_n 0, 1) := by decide +kernel
theorem dX1_holesFault_41 : decode cX1_holesFault 41 = .ok (.bipush 6, 2) := by decide +kernel
theorem dX1_holesFault_43 : decode cX1_holesFault 43 = .ok (.iload_n 1, 1) := by decide +kernel
theorem dX1_holesFault_44 : decode cX1_holesFault 44 = .ok (.aload_n 0, 1) := by decide +kernel
theorem dX1_holesFault_45 : decode cX1_holesFault 45 = .ok (.getfield 32, 3) := by decide +kernel
theorem dX1_holesFault_48 : decode cX1_holesFault 48 = .ok (.iload_n 3, 1) := by decide +kernel
theorem dX1_holesFault_49 : decode cX1_holesFault 49 = .ok (.iaload, 1) := by decide +kernel
theorem dX1_holesFault_50 : decode cX1_holesFault 50 = .ok (.invokevirtual 108, 3) := by decide +kernel
theorem dX1_holesFault_53 : decode cX1_holesFault 53 = .ok (.ireturn, 1) := by decide +kernel
theorem dX1_holesFault_54 : decode cX1_holesFault 54 = .ok (.iinc 3 1, 3) := by decide +kernel
theorem dX1_holesFault_57 : decode cX1_holesFault 57 = .ok (.goto (-36), 3) := by decide +kernel
theorem dX1_holesFault_60 : decode cX1_holesFault 60 = .ok (.iload_n 2, 1) := by decide +kernel
theorem dX1_holesFault_61 : decode cX1_holesFault 61 = .ok (.iconst 1, 1) := by decide +kernel
theorem dX1_holesFault_62 : decode cX1_holesFault 62 = .ok (.iadd, 1) := by decide +kernel
theorem dX1_holesFault_63 : decode cX1_holesFault 63 = .ok (.istore_n 3, 1) := by decide +kernel
theorem dX1_holesFault_64 : decode cX1_holesFault 64 = .ok (.iload_n 3, 1) := by decide +kernel
theorem dX1_holesFault_65 : decode cX1_holesFault 65 = .ok (.aload_n 0, 1) := by decide +kernel
theorem dX1_holesFault_66 : decode cX1_holesFault 66 = .ok (.getfield 44, 3) := by decide +kernel
theorem dX1_holesFault_69 : decode cX1_holesFault 69 = .ok (.iload_n 1, 1) := by decide +kernel
theorem dX1_holesFault_70 : decode cX1_holesFault 70 = .ok (.iaload, 1) := by decide +kernel
theorem dX1_holesFault_71 : decode cX1_holesFault 71 = .ok (.if_icmp .ge 85, 3) := by decide +kernel
theorem dX1_holesFault_74 : decode cX1_holesFault 74 = .ok (.iload_n 3, 1) := by decide +kernel
theorem dX1_holesFault_75 : decode cX1_holesFault 75 = .ok (.iconst 1, 1) := by decide +kernel
theorem dX1_holesFault_76 : decode cX1_holesFault 76 = .ok (.iadd, 1) := by decide +kernel
theorem dX1_holesFault_77 : decode cX1_holesFault 77 = .ok (.istore 4, 2) := by decide +kernel
theorem dX1_holesFault_79 : decode cX1_holesFault 79 = .ok (.iload 4, 2) := by decide +kernel
theorem dX1_holesFault_81 : decode cX1_holesFault 81 = .ok (.aload_n 0, 1) := by decide +kernel
theorem dX1_holesFault_82 : decode cX1_holesFault 82 = .ok (.getfield 44, 3) := by decide +kernel
theorem dX1_holesFault_85 : decode cX1_holesFault 85 = .ok (.iload_n 1, 1) := by decide +kernel
theorem dX1_holesFault_86 : decode cX1_holesFault 86 = .ok (.iaload, 1) := by decide +kernel
theorem dX1_holesFault_87 : decode cX1_holesFault 87 = .ok (.if_icmp .ge 63, 3) := by decide +kernel
theorem dX1_holesFault_90 : decode cX1_holesFault 90 = .ok (.aload_n 0, 1) := by decide +kernel
theorem dX1_holesFault_91 : decode cX1_holesFault 91 = .ok (.iload_n 3, 1) := by decide +kernel
theorem dX1_holesFault_92 : decode cX1_holesFault 92 = .ok (.iload 4, 2) := by decide +kernel
theorem dX1_holesFault_94 : decode cX1_holesFault 94 = .ok (.invokevirtual 192, 3) := by decide +kernel
theorem dX1_holesFault_97 : decode cX1_holesFault 97 = .ok (.ifCond .ne 13, 3) := by decide +kernel
theorem dX1_holesFault_100 : decode cX1_holesFault 100 = .ok (.aload_n 0, 1) := by decide +kernel
theorem dX1_holesFault_101 : decode cX1_holesFault 101 = .ok (.iload 4, 2) := by decide +kernel
theorem dX1_holesFault_103 : decode cX1_holesFault 103 = .ok (.iload_n 3, 1) := by decide +kernel
theorem dX1_holesFault_104 : decode cX1_holesFault 104 = .ok (.invokevirtual 192, 3) := by decide +kernel
theorem dX1_holesFault_107 : decode cX1_holesFault 107 = .ok (.ifCond .eq 37, 3) := by decide +kernel
theorem dX1_holesFault_110 : decode cX1_holesFault 110 = .ok (.aload_n 0, 1) := by decide +kernel
theorem dX1_holesFault_111 : decode cX1_holesFault 111 = .ok (.getfield 11, 3) := by decide +kernel
theorem dX1_holesFault_114 : decode cX1_holesFault 114 = .ok (.iconst 4, 1) := by decide +kernel
theorem dX1_holesFault_115 : decode cX1_holesFault 115 = .ok (.iload_n 1, 1) := by decide +kernel
theorem dX1_holesFault_116 : decode cX1_holesFault 116 = .ok (.iastore, 1) := by decide +kernel
theorem dX1_holesFault_117 : decode cX1_holesFault 117 = .ok (.aload_n 0, 1) := by decide +kernel
theorem dX1_holesFault_118 : decode cX1_holesFault 118 = .ok (.getfield 11, 3) := by decide +kernel
theorem dX1_holesFault_121 : decode cX1_holesFault 121 = .ok (.iconst 5, 1) := by decide +kernel
theorem dX1_holesFault_122 : decode cX1_holesFault 122 = .ok (.aload_n 0, 1) := by decide +kernel
theorem dX1_holesFault_123 : decode cX1_holesFault 123 = .ok (.getfield 32, 3) := by decide +kernel
theorem dX1_holesFault_126 : decode cX1_holesFault 126 = .ok (.iload 4, 2) := by decide +kernel
theorem dX1_holesFault_128 : decode cX1_holesFault 128 = .ok (.iaload, 1) := by decide +kernel
theorem dX1_holesFault_129 : decode cX1_holesFault 129 = .ok (.iastore, 1) := by decide +kernel
theorem dX1_holesFault_130 : decode cX1_holesFault 130 = .ok (.aload_n 0, 1) := by decide +kernel
theorem dX1_holesFault_131 : decode cX1_holesFault 131 = .ok (.bipush 7, 2) := by decide +kernel
theorem dX1_holesFault_133 : decode cX1_holesFault 133 = .ok (.iload_n 1, 1) := by decide +kernel
theorem dX1_holesFault_134 : decode cX1_holesFault 134 = .ok (.aload_n 0, 1) := by decide +kernel
theorem dX1_holesFault_135 : decode cX1_holesFault 135 = .ok (.getfield 32, 3) := by decide +kernel
theorem dX1_holesFault_138 : decode cX1_holesFault 138 = .ok (.iload_n 3, 1) := by decide +kernel
theorem dX1_holesFault_139 : decode cX1_holesFault 139 = .ok (.iaload, 1) := by decide +kernel
theorem dX1_holesFault_140 : decode cX1_holesFault 140 = .ok (.invokevirtual 108, 3) := by decide +kernel
theorem dX1_holesFault_143 : decode cX1_holesFault 143 = .ok (.ireturn, 1) := by decide +kernel
theorem dX1_holesFault_144 : decode cX1_holesFault 144 = .ok (.iinc 4 1, 3) := by decide +kernel
theorem dX1_holesFault_147 : decode cX1_holesFault 147 = .ok (.goto (-68), 3) := by decide +kernel
theorem dX1_holesFault_150 : decode cX1_holesFault 150 = .ok (.iinc 3 1, 3) := by decide +kernel
theorem dX1_holesFault_153 : decode cX1_holesFault 153 = .ok (.goto (-89), 3) := by decide +kernel
theorem dX1_holesFault_156 : decode cX1_holesFault 156 = .ok (.iconst 0, 1) := by decide +kernel
theorem dX1_holesFault_157 : decode cX1_holesFault 157 = .ok (.ireturn, 1) := by decide +kernel
abbrev M_X1_holesFault : MRec := (yX1_holesFault, cX1_holesFault, 5, (some Jvm.ClassFile.FieldType.int), [])
theorem m_X1_holesFault : en_M M_X1_holesFault 1 := ⟨t_1310, t_6, ⟨by decide +kernel, by decide +kernel⟩, by decide +kernel, by decide +kernel, by decide +kernel⟩
theorem dX1_passes_0 : decode cX1_passes 0 = .ok (.aload_n 0, 1) := by decide +kernel
theorem dX1_passes_1 : decode cX1_passes 1 = .ok (.getfield 35, 3) := by decide +kernel
theorem dX1_passes_4 : decode cX1_passes 4 = .ok (.iload_n 1, 1) := by decide +kernel
theorem dX1_passes_5 : decode cX1_passes 5 = .ok (.iaload, 1) := by decide +kernel
theorem dX1_passes_6 : decode cX1_passes 6 = .ok (.istore 4, 2) := by decide +kernel
theorem dX1_passes_8 : decode cX1_passes 8 = .ok (.iload 4, 2) := by decide +kernel
theorem dX1_passes_10 : decode cX1_passes 10 = .ok (.aload_n 0, 1) := by decide +kernel
theorem dX1_passes_11 : decode cX1_passes 11 = .ok (.getfield 38, 3) := by decide +kernel
theorem dX1_passes_14 : decode cX1_passes 14 = .ok (.iload_n 1, 1) := by decide +kernel
theorem dX1_passes_15 : decode cX1_passes 15 = .ok (.iaload, 1) := by decide +kernel
theorem dX1_passes_16 : decode cX1_passes 16 = .ok (.if_icmp .ge 59, 3) := by decide +kernel
theorem dX1_passes_19 : decode cX1_passes 19 = .ok (.aload_n 0, 1) := by decide +kernel
theorem dX1_passes_20 : decode cX1_passes 20 = .ok (.getfield 22, 3) := by decide +kernel
theorem dX1_passes_23 : decode cX1_passes 23 = .ok (.getfield 182, 3) := by decide +kernel
theorem dX1_passes_26 : decode cX1_passes 26 = .ok (.iload 4, 2) := by decide +kernel
theorem dX1_passes_28 : decode cX1_passes 28 = .ok (.iaload, 1) := by decide +kernel
theorem dX1_passes_29 : decode cX1_passes 29 = .ok (.aload_n 0, 1) := by decide +kernel
theorem dX1_passes_30 : decode cX1_passes 30 = .ok (.getfield 22, 3) := by decide +kernel
theorem dX1_passes_33 : decode cX1_passes 33 = .ok (.getfield 185, 3) := by decide +kernel
theorem dX1_passes_36 : decode cX1_passes 36 = .ok (.iload 4, 2) := by decide +kernel
theorem dX1_passes_38 : decode cX1_passes 38 = .ok (.iaload, 1) := by decide +kernel
theorem dX1_passes_39 : decode cX1_passes 39 = .ok (.aload_n 0, 1) := by decide +kernel
theorem dX1_passes_40 : decode cX1_passes 40 = .ok (.getfield 22, 3) := by decide +kernel
theorem dX1_passes_43 : decode cX1_passes 43 = .ok (.getfield 172, 3) := by decide +kernel
theorem dX1_passes_46 : decode cX1_passes 46 = .ok (.iload 4, 2) := by decide +kernel
theorem dX1_passes_48 : decode cX1_passes 48 = .ok (.iaload, 1) := by decide +kernel
theorem dX1_passes_49 : decode cX1_passes 49 = .ok (.aload_n 0, 1) := by decide +kernel
theorem dX1_passes_50 : decode cX1_passes 50 = .ok (.getfield 22, 3) := by decide +kernel
theorem dX1_passes_53 : decode cX1_passes 53 = .ok (.getfield 175, 3) := by decide +kernel
theorem dX1_passes_56 : decode cX1_passes 56 = .ok (.iload 4, 2) := by decide +kernel
theorem dX1_passes_58 : decode cX1_passes 58 = .ok (.iaload, 1) := by decide +kernel
theorem dX1_passes_59 : decode cX1_passes 59 = .ok (.iload_n 2, 1) := by decide +kernel
theorem dX1_passes_60 : decode cX1_passes 60 = .ok (.iload_n 3, 1) := by decide +kernel
theorem dX1_passes_61 : decode cX1_passes 61 = .ok (.invokestatic 201, 3) := by decide +kernel
theorem dX1_passes_64 : decode cX1_passes 64 = .ok (.ifCond .eq 5, 3) := by decide +kernel
theorem dX1_passes_67 : decode cX1_passes 67 = .ok (.iconst 1, 1) := by decide +kernel
theorem dX1_passes_68 : decode cX1_passes 68 = .ok (.ireturn, 1) := by decide +kernel
theorem dX1_passes_69 : decode cX1_passes 69 = .ok (.iinc 4 1, 3) := by decide +kernel
theorem dX1_passes_72 : decode cX1_passes 72 = .ok (.goto (-64), 3) := by decide +kernel
theorem dX1_passes_75 : decode cX1_passes 75 = .ok (.iconst 0, 1) := by decide +kernel
theorem dX1_passes_76 : decode cX1_passes 76 = .ok (.ireturn, 1) := by decide +kernel
abbrev M_X1_passes : MRec := (yX1_passes, cX1_passes, 5, (some Jvm.ClassFile.FieldType.boolean), [])
theorem m_X1_passes : en_M M_X1_passes 3 := ⟨t_1343, t_6, ⟨by decide +kernel, by decide +kernel⟩, by decide +kernel, by decide +kernel, by decide +kernel⟩
theorem dX1_rootOf_0 : decode cX1_rootOf 0 = .ok (.iload_n 1, 1) := by decide +kernel
theorem dX1_rootOf_1 : decode cX1_rootOf 1 = .ok (.istore_n 2, 1) := by decide +kernel
theorem dX1_rootOf_2 : decode cX1_rootOf 2 = .ok (.iconst 0, 1) := by decide +kernel
theorem dX1_rootOf_3 : decode cX1_rootOf 3 = .ok (.istore_n 3, 1) := by decide +kernel
theorem dX1_rootOf_4 : decode cX1_rootOf 4 = .ok (.iload_n 3, 1) := by decide +kernel
theorem dX1_rootOf_5 : decode cX1_rootOf 5 = .ok (.aload_n 0, 1) := by decide +kernel
theorem dX1_rootOf_6 : decode cX1_rootOf 6 = .ok (.getfield 88, 3) := by decide +kernel
theorem dX1_rootOf_9 : decode cX1_rootOf 9 = .ok (.if_icmp .ge 26, 3) := by decide +kernel
theorem dX1_rootOf_12 : decode cX1_rootOf 12 = .ok (.aload_n 0, 1) := by decide +kernel
theorem dX1_rootOf_13 : decode cX1_rootOf 13 = .ok (.getfield 47, 3) := by decide +kernel
theorem dX1_rootOf_16 : decode cX1_rootOf 16 = .ok (.iload_n 2, 1) := by decide +kernel
theorem dX1_rootOf_17 : decode cX1_rootOf 17 = .ok (.iaload, 1) := by decide +kernel
theorem dX1_rootOf_18 : decode cX1_rootOf 18 = .ok (.iload_n 2, 1) := by decide +kernel
theorem dX1_rootOf_19 : decode cX1_rootOf 19 = .ok (.if_icmp .eq 16, 3) := by decide +kernel
theorem dX1_rootOf_22 : decode cX1_rootOf 22 = .ok (.aload_n 0, 1) := by decide +kernel
theorem dX1_rootOf_23 : decode cX1_rootOf 23 = .ok (.getfield 47, 3) := by decide +kernel
theorem dX1_rootOf_26 : decode cX1_rootOf 26 = .ok (.iload_n 2, 1) := by decide +kernel
theorem dX1_rootOf_27 : decode cX1_rootOf 27 = .ok (.iaload, 1) := by decide +kernel
theorem dX1_rootOf_28 : decode cX1_rootOf 28 = .ok (.istore_n 2, 1) := by decide +kernel
theorem dX1_rootOf_29 : decode cX1_rootOf 29 = .ok (.iinc 3 1, 3) := by decide +kernel
theorem dX1_rootOf_32 : decode cX1_rootOf 32 = .ok (.goto (-28), 3) := by decide +kernel
theorem dX1_rootOf_35 : decode cX1_rootOf 35 = .ok (.iload_n 2, 1) := by decide +kernel
theorem dX1_rootOf_36 : decode cX1_rootOf 36 = .ok (.ireturn, 1) := by decide +kernel
abbrev M_X1_rootOf : MRec := (yX1_rootOf, cX1_rootOf, 4, (some Jvm.ClassFile.FieldType.int), [])
theorem m_X1_rootOf : en_M M_X1_rootOf 1 := ⟨t_1347, t_6, ⟨by decide +kernel, by decide +kernel⟩, by decide +kernel, by decide +kernel, by decide +kernel⟩
theorem dX5_begins_0 : decode cX5_begins 0 = .ok (.aload_n 0, 1) := by decide +kernel
theorem dX5_begins_1 : decode cX5_begins 1 = .ok (.getfield 7, 3) := by decide +kernel
theorem dX5_begins_4 : decode cX5_begins 4 = .ok (.iload_n 1, 1) := by decide +kernel
theorem dX5_begins_5 : decode cX5_begins 5 = .ok (.iaload, 1) := by decide +kernel
theorem dX5_begins_6 : decode cX5_begins 6 = .ok (.iload_n 2, 1) := by decide +kernel
theorem dX5_begins_7 : decode cX5_begins 7 = .ok (.if_icmp .ne 17, 3) := by decide +kernel
theorem dX5_begins_10 : decode cX5_begins 10 = .ok (.aload_n 0, 1) := by decide +kernel
theorem dX5_begins_11 : decode cX5_begins 11 = .ok (.getfield 13, 3) := by decide +kernel
theorem dX5_begins_14 : decode cX5_begins 14 = .ok (.iload_n 1, 1) := by decide +kernel
theorem dX5_begins_15 : decode cX5_begins 15 = .ok (.iaload, 1) := by decide +kernel
theorem dX5_begins_16 : decode cX5_begins 16 = .ok (.iload_n 3, 1) := by decide +kernel
theorem dX5_begins_17 : decode cX5_begins 17 = .ok (.if_icmp .ne 7, 3) := by decide +kernel
theorem dX5_begins_20 : decode cX5_begins 20 = .ok (.iconst 1, 1) := by decide +kernel
theorem dX5_begins_21 : decode cX5_begins 21 = .ok (.goto 4, 3) := by decide +kernel
theorem dX5_begins_24 : decode cX5_begins 24 = .ok (.iconst 0, 1) := by decide +kernel
theorem dX5_begins_25 : decode cX5_begins 25 = .ok (.ireturn, 1) := by decide +kernel
abbrev M_X5_begins : MRec := (yX5_begins, cX5_begins, 4, (some Jvm.ClassFile.FieldType.boolean), [])
theorem m_X5_begins : en_M M_X5_begins 3 := ⟨t_1285, t_7, ⟨by decide +kernel, by decide +kernel⟩, by decide +kernel, by decide +kernel, by decide +kernel⟩
theorem dX1_joinsInRound_0 : decode cX1_joinsInRound 0 = .ok (.aload_n 0, 1) := by decide +kernel
theorem dX1_joinsInRound_1 : decode cX1_joinsInRound 1 = .ok (.getfield 35, 3) := by decide +kernel
theorem dX1_joinsInRound_4 : decode cX1_joinsInRound 4 = .ok (.aload_n 0, 1) := by decide +kernel
theorem dX1_joinsInRound_5 : decode cX1_joinsInRound 5 = .ok (.getfield 41, 3) := by decide +kernel
theorem dX1_joinsInRound_8 : decode cX1_joinsInRound 8 = .ok (.iload_n 1, 1) := by decide +kernel
theorem dX1_joinsInRound_9 : decode cX1_joinsInRound 9 = .ok (.iaload, 1) := by decide +kernel
theorem dX1_joinsInRound_10 : decode cX1_joinsInRound 10 = .ok (.iaload, 1) := by decide +kernel
theorem dX1_joinsInRound_11 : decode cX1_joinsInRound 11 = .ok (.istore 5, 2) := by decide +kernel
theorem dX1_joinsInRound_13 : decode cX1_joinsInRound 13 = .ok (.iload 5, 2) := by decide +kernel
theorem dX1_joinsInRound_15 : decode cX1_joinsInRound 15 = .ok (.aload_n 0, 1) := by decide +kernel
theorem dX1_joinsInRound_16 : decode cX1_joinsInRound 16 = .ok (.getfield 35, 3) := by decide +kernel
theorem dX1_joinsInRound_19 : decode cX1_joinsInRound 19 = .ok (.iload_n 2, 1) := by decide +kernel
theorem dX1_joinsInRound_20 : decode cX1_joinsInRound 20 = .ok (.iaload, 1) := by decide +kernel
theorem dX1_joinsInRound_21 : decode cX1_joinsInRound 21 = .ok (.if_icmp .ge 26, 3) := by decide +kernel
theorem dX1_joinsInRound_24 : decode cX1_joinsInRound 24 = .ok (.aload_n 0, 1) := by decide +kernel
theorem dX1_joinsInRound_25 : decode cX1_joinsInRound 25 = .ok (.getfield 22, 3) := by decide +kernel
theorem dX1_joinsInRound_28 : decode cX1_joinsInRound 28 = .ok (.iload 5, 2) := by decide +kernel
theorem dX1_joinsInRound_30 : decode cX1_joinsInRound 30 = .ok (.iload_n 3, 1) := by decide +kernel
theorem dX1_joinsInRound_31 : decode cX1_joinsInRound 31 = .ok (.iload 4, 2) := by decide +kernel
theorem dX1_joinsInRound_33 : decode cX1_joinsInRound 33 = .ok (.invokevirtual 169, 3) := by decide +kernel
theorem dX1_joinsInRound_36 : decode cX1_joinsInRound 36 = .ok (.ifCond .eq 5, 3) := by decide +kernel
theorem dX1_joinsInRound_39 : decode cX1_joinsInRound 39 = .ok (.iconst 0, 1) := by decide +kernel
theorem dX1_joinsInRound_40 : decode cX1_joinsInRound 40 = .ok (.ireturn, 1) := by decide +kernel
theorem dX1_joinsInRound_41 : decode cX1_joinsInRound 41 = .ok (.iinc 5 1, 3) := by decide +kernel
theorem dX1_joinsInRound_44 : decode cX1_joinsInRound 44 = .ok (.goto (-31), 3) := by decide +kernel
theorem dX1_joinsInRound_47 : decode cX1_joinsInRound 47 = .ok (.aload_n 0, 1) := by decide +kernel
theorem dX1_joinsInRound_48 : decode cX1_joinsInRound 48 = .ok (.getfield 41, 3) := by decide +kernel
theorem dX1_joinsInRound_51 : decode cX1_joinsInRound 51 = .ok (.iload_n 1, 1) := by decide +kernel
theorem dX1_joinsInRound_52 : decode cX1_joinsInRound 52 = .ok (.iaload, 1) := by decide +kernel
theorem dX1_joinsInRound_53 : decode cX1_joinsInRound 53 = .ok (.istore 5, 2) := by decide +kernel
theorem dX1_joinsInRound_55 : decode cX1_joinsInRound 55 = .ok (.iload 5, 2) := by decide +kernel
theorem dX1_joinsInRound_57 : decode cX1_joinsInRound 57 = .ok (.aload_n 0, 1) := by decide +kernel
theorem dX1_joinsInRound_58 : decode cX1_joinsInRound 58 = .ok (.getfield 44, 3) := by decide +kernel
theorem dX1_joinsInRound_61 : decode cX1_joinsInRound 61 = .ok (.iload_n 1, 1) := by decide +kernel
theorem dX1_joinsInRound_62 : decode cX1_joinsInRound 62 = .ok (.iaload, 1) := by decide +kernel
theorem dX1_joinsInRound_63 : decode cX1_joinsInRound 63 = .ok (.if_icmp .ge 63, 3) := by decide +kernel
theorem dX1_joinsInRound_66 : decode cX1_joinsInRound 66 = .ok (.iload 5, 2) := by decide +kernel
theorem dX1_joinsInRound_68 : decode cX1_joinsInRound 68 = .ok (.iload_n 2, 1) := by decide +kernel
theorem dX1_joinsInRound_69 : decode cX1_joinsInRound 69 = .ok (.if_icmp .eq 51, 3) := by decide +kernel
theorem dX1_joinsInRound_72 : decode cX1_joinsInRound 72 = .ok (.aload_n 0, 1) := by decide +kernel
theorem dX1_joinsInRound_73 : decode cX1_joinsInRound 73 = .ok (.iload 5, 2) := by decide +kernel
theorem dX1_joinsInRound_75 : decode cX1_joinsInRound 75 = .ok (.iload_n 3, 1) := by decide +kernel
theorem dX1_joinsInRound_76 : decode cX1_joinsInRound 76 = .ok (.iload 4, 2) := by decide +kernel
theorem dX1_joinsInRound_78 : decode cX1_joinsInRound 78 = .ok (.invokevirtual 214, 3) := by decide +kernel
theorem dX1_joinsInRound_81 : decode cX1_joinsInRound 81 = .ok (.ifCond .ne 6, 3) := by decide +kernel
theorem dX1_joinsInRound_84 : decode cX1_joinsInRound 84 = .ok (.goto 36, 3) := by decide +kernel
theorem dX1_joinsInRound_87 : decode cX1_joinsInRound 87 = .ok (.aload_n 0, 1) := by decide +kernel
theorem dX1_joinsInRound_88 : decode cX1_joinsInRound 88 = .ok (.iload_n 2, 1) := by decide +kernel
theorem dX1_joinsInRound_89 : decode cX1_joinsInRound 89 = .ok (.invokevirtual 217, 3) := by decide +kernel
theorem dX1_joinsInRound_92 : decode cX1_joinsInRound 92 = .ok (.istore 6, 2) := by decide +kernel
theorem dX1_joinsInRound_94 : decode cX1_joinsInRound 94 = .ok (.aload_n 0, 1) := by decide +kernel
theorem dX1_joinsInRound_95 : decode cX1_joinsInRound 95 = .ok (.iload 5, 2) := by decide +kernel
theorem dX1_joinsInRound_97 : decode cX1_joinsInRound 97 = .ok (.invokevirtual 217, 3) := by decide +kernel
theorem dX1_joinsInRound_100 : decode cX1_joinsInRound 100 = .ok (.istore 7, 2) := by decide +kernel
theorem dX1_joinsInRound_102 : decode cX1_joinsInRound 102 = .ok (.iload 6, 2) := by decide +kernel
theorem dX1_joinsInRound_104 : decode cX1_joinsInRound 104 = .ok (.iload 7, 2) := by decide +kernel
theorem dX1_joinsInRound_106 : decode cX1_joinsInRound 106 = .ok (.if_icmp .ne 5, 3) := by decide +kernel
theorem dX1_joinsInRound_109 : decode cX1_joinsInRound 109 = .ok (.iconst 1, 1) := by decide +kernel
theorem dX1_joinsInRound_110 : decode cX1_joinsInRound 110 = .ok (.ireturn, 1) := by decide +kernel
theorem dX1_joinsInRound_111 : decode cX1_joinsInRound 111 = .ok (.aload_n 0, 1) := by decide +kernel
theorem dX1_joinsInRound_112 : decode cX1_joinsInRound 112 = .ok (.getfield 47, 3) := by decide +kernel
theorem dX1_joinsInRound_115 : decode cX1_joinsInRound 115 = .ok (.iload 7, 2) := by decide +kernel
theorem dX1_joinsInRound_117 : decode cX1_joinsInRound 117 = .ok (.iload 6, 2) := by decide +kernel
theorem dX1_joinsInRound_119 : decode cX1_joinsInRound 119 = .ok (.iastore, 1) := by decide +kernel
theorem dX1_joinsInRound_120 : decode cX1_joinsInRound 120 = .ok (.iinc 5 1, 3) := by decide +kernel
theorem dX1_joinsInRound_123 : decode cX1_joinsInRound 123 = .ok (.goto (-68), 3) := by decide +kernel
theorem dX1_joinsInRound_126 : decode cX1_joinsInRound 126 = .ok (.iconst 0, 1) := by decide +kernel
theorem dX1_joinsInRound_127 : decode cX1_joinsInRound 127 = .ok (.ireturn, 1) := by decide +kernel
abbrev M_X1_joinsInRound : MRec := (yX1_joinsInRound, cX1_joinsInRound, 8, (some Jvm.ClassFile.FieldType.boolean), [])
theorem m_X1_joinsInRound : en_M M_X1_joinsInRound 4 := ⟨t_1339, t_6, ⟨by decide +kernel, by decide +kernel⟩, by decide +kernel, by decide +kernel, by decide +kernel⟩
theorem dX1_isSplit_0 : decode cX1_isSplit 0 = .ok (.aload_n 0, 1) := by decide +kernel
theorem dX1_isSplit_1 : decode cX1_isSplit 1 = .ok (.getfield 44, 3) := by decide +kernel
theorem dX1_isSplit_4 : decode cX1_isSplit 4 = .ok (.iload_n 1, 1) := by decide +kernel
theorem dX1_isSplit_5 : decode cX1_isSplit 5 = .ok (.iaload, 1) := by decide +kernel
theorem dX1_isSplit_6 : decode cX1_isSplit 6 = .ok (.aload_n 0, 1) := by decide +kernel
theorem dX1_isSplit_7 : decode cX1_isSplit 7 = .ok (.getfield 41, 3) := by decide +kernel
theorem dX1_isSplit_10 : decode cX1_isSplit 10 = .ok (.iload_n 1, 1) := by decide +kernel
theorem dX1_isSplit_11 : decode cX1_isSplit 11 = .ok (.iaload, 1) := by decide +kernel
theorem dX1_isSplit_12 : decode cX1_isSplit 12 = .ok (.isub, 1) := by decide +kernel
theorem dX1_isSplit_13 : decode cX1_isSplit 13 = .ok (.iconst 2, 1) := by decide +kernel
theorem dX1_isSplit_14 : decode cX1_isSplit 14 = .ok (.if_icmp .ge 5, 3) := by decide +kernel
theorem dX1_isSplit_17 : decode cX1_isSplit 17 = .ok (.iconst 0, 1) := by decide +kernel
theorem dX1_isSplit_18 : decode cX1_isSplit 18 = .ok (.ireturn, 1) := by decide +kernel
theorem dX1_isSplit_19 : decode cX1_isSplit 19 = .ok (.aload_n 0, 1) := by decide +kernel
theorem dX1_isSplit_20 : decode cX1_isSplit 20 = .ok (.getfield 41, 3) := by decide +kernel
theorem dX1_isSplit_23 : decode cX1_isSplit 23 = .ok (.iload_n 1, 1) := by decide +kernel
theorem dX1_isSplit_24 : decode cX1_isSplit 24 = .ok (.iaload, 1) := by decide +kernel
theorem dX1_isSplit_25 : decode cX1_isSplit 25 = .ok (.istore_n 2, 1) := by decide +kernel
theorem dX1_isSplit_26 : decode cX1_isSplit 26 = .ok (.iload_n 2, 1) := by decide +kernel
theorem dX1_isSplit_27 : decode cX1_isSplit 27 = .ok (.aload_n 0, 1) := by decide +kernel
theorem dX1_isSplit_28 : decode cX1_isSplit 28 = .ok (.getfield 44, 3) := by decide +kernel
theorem dX1_isSplit_31 : decode cX1_isSplit 31 = .ok (.iload_n 1, 1) := by decide +kernel
theorem dX1_isSplit_32 : decode cX1_isSplit 32 = .ok (.iaload, 1) := by decide +kernel
theorem dX1_isSplit_33 : decode cX1_isSplit 33 = .ok (.if_icmp .ge 16, 3) := by decide +kernel
theorem dX1_isSplit_36 : decode cX1_isSplit 36 = .ok (.aload_n 0, 1) := by decide +kernel
theorem dX1_isSplit_37 : decode cX1_isSplit 37 = .ok (.getfield 47, 3) := by decide +kernel
theorem dX1_isSplit_40 : decode cX1_isSplit 40 = .ok (.iload_n 2, 1) := by decide +kernel
theorem dX1_isSplit_41 : decode cX1_isSplit 41 = .ok (.iload_n 2, 1) := by decide +kernel
theorem dX1_isSplit_42 : decode cX1_isSplit 42 = .ok (.iastore, 1) := by decide +kernel
theorem dX1_isSplit_43 : decode cX1_isSplit 43 = .ok (.iinc 2 1, 3) := by decide +kernel
theorem dX1_isSplit_46 : decode cX1_isSplit 46 = .ok (.goto (-20), 3) := by decide +kernel
theorem dX1_isSplit_49 : decode cX1_isSplit 49 = .ok (.aload_n 0, 1) := by decide +kernel
theorem dX1_isSplit_50 : decode cX1_isSplit 50 = .ok (.getfield 41, 3) := by decide +kernel
theorem dX1_isSplit_53 : decode cX1_isSplit 53 = .ok (.iload_n 1, 1) := by decide +kernel
theorem dX1_isSplit_54 : decode cX1_isSplit 54 = .ok (.iaload, 1) := by decide +kernel
theorem dX1_isSplit_55 : decode cX1_isSplit 55 = .ok (.istore_n 2, 1) := by decide +kernel
theorem dX1_isSplit_56 : decode cX1_isSplit 56 = .ok (.iload_n 2, 1) := by decide +kernel
theorem dX1_isSplit_57 : decode cX1_isSplit 57 = .ok (.aload_n 0, 1) := by decide +kernel
theorem dX1_isSplit_58 : decode cX1_isSplit 58 = .ok (.getfield 44, 3) := by decide +kernel
theorem dX1_isSplit_61 : decode cX1_isSplit 61 = .ok (.iload_n 1, 1) := by decide +kernel
theorem dX1_isSplit_62 : decode cX1_isSplit 62 = .ok (.iaload, 1) := by decide +kernel
theorem dX1_isSplit_63 : decode cX1_isSplit 63 = .ok (.if_icmp .ge 61, 3) := by decide +kernel
theorem dX1_isSplit_66 : decode cX1_isSplit 66 = .ok (.aload_n 0, 1) := by decide +kernel
theorem dX1_isSplit_67 : decode cX1_isSplit 67 = .ok (.getfield 35, 3) := by decide +kernel
theorem dX1_isSplit_70 : decode cX1_isSplit 70 = .ok (.iload_n 2, 1) := by decide +kernel
theorem dX1_isSplit_71 : decode cX1_isSplit 71 = .ok (.iaload, 1) := by decide +kernel
theorem dX1_isSplit_72 : decode cX1_isSplit 72 = .ok (.istore_n 3, 1) := by decide +kernel
theorem dX1_isSplit_73 : decode cX1_isSplit 73 = .ok (.iload_n 3, 1) := by decide +kernel
theorem dX1_isSplit_74 : decode cX1_isSplit 74 = .ok (.aload_n 0, 1) := by decide +kernel
theorem dX1_isSplit_75 : decode cX1_isSplit 75 = .ok (.getfield 38, 3) := by decide +kernel
theorem dX1_isSplit_78 : decode cX1_isSplit 78 = .ok (.iload_n 2, 1) := by decide +kernel
theorem dX1_isSplit_79 : decode cX1_isSplit 79 = .ok (.iaload, 1) := by decide +kernel
theorem dX1_isSplit_80 : decode cX1_isSplit 80 = .ok (.if_icmp .ge 38, 3) := by decide +kernel
theorem dX1_isSplit_83 : decode cX1_isSplit 83 = .ok (.aload_n 0, 1) := by decide +kernel
theorem dX1_isSplit_84 : decode cX1_isSplit 84 = .ok (.iload_n 1, 1) := by decide +kernel
theorem dX1_isSplit_85 : decode cX1_isSplit 85 = .ok (.iload_n 2, 1) := by decide +kernel
theorem dX1_isSplit_86 : decode cX1_isSplit 86 = .ok (.aload_n 0, 1) := by decide +kernel
theorem dX1_isSplit_87 : decode cX1_isSplit 87 = .ok (.getfield 22, 3) := by decide +kernel
theorem dX1_isSplit_90 : decode cX1_isSplit 90 = .ok (.getfield 182, 3) := by decide +kernel
theorem dX1_isSplit_93 : decode cX1_isSplit 93 = .ok (.iload_n 3, 1) := by decide +kernel
theorem dX1_isSplit_94 : decode cX1_isSplit 94 = .ok (.iaload, 1) := by decide +kernel
theorem dX1_isSplit_95 : decode cX1_isSplit 95 = .ok (.aload_n 0, 1) := by decide +kernel
theorem dX1_isSplit_96 : decode cX1_isSplit 96 = .ok (.getfield 22, 3) := by decide +kernel
theorem dX1_isSplit_99 : decode cX1_isSplit 99 = .ok (.getfield 185, 3) := by decide +kernel
theorem dX1_isSplit_102 : decode cX1_isSplit 102 = .ok (.iload_n 3, 1) := by decide +kernel
theorem dX1_isSplit_103 : decode cX1_isSplit 103 = .ok (.iaload, 1) := by decide +kernel
theorem dX1_isSplit_104 : decode cX1_isSplit 104 = .ok (.invokevirtual 211, 3) := by decide +kernel
theorem dX1_isSplit_107 : decode cX1_isSplit 107 = .ok (.ifCond .eq 5, 3) := by decide +kernel
theorem dX1_isSplit_110 : decode cX1_isSplit 110 = .ok (.iconst 1, 1) := by decide +kernel
theorem dX1_isSplit_111 : decode cX1_isSplit 111 = .ok (.ireturn, 1) := by decide +kernel
theorem dX1_isSplit_112 : decode cX1_isSplit 112 = .ok (.iinc 3 1, 3) := by decide +kernel
theorem dX1_isSplit_115 : decode cX1_isSplit 115 = .ok (.goto (-42), 3) := by decide +kernel
theorem dX1_isSplit_118 : decode cX1_isSplit 118 = .ok (.iinc 2 1, 3) := by decide +kernel
theorem dX1_isSplit_121 : decode cX1_isSplit 121 = .ok (.goto (-65), 3) := by decide +kernel
theorem dX1_isSplit_124 : decode cX1_isSplit 124 = .ok (.iconst 0, 1) := by decide +kernel
theorem dX1_isSplit_125 : decode cX1_isSplit 125 = .ok (.ireturn, 1) := by decide +kernel
abbrev M_X1_isSplit : MRec := (yX1_isSplit, cX1_isSplit, 4, (some Jvm.ClassFile.FieldType.boolean), [])
theorem m_X1_isSplit : en_M M_X1_isSplit 1 := ⟨t_1335, t_6, ⟨by decide +kernel, by decide +kernel⟩, by decide +kernel, by decide +kernel, by decide +kernel⟩
theorem dX5_add_0 : decode cX5_add 0 = .ok (.aload_n 0, 1) := by decide +kernel
theorem dX5_add_1 : decode cX5_add 1 = .ok (.getfield 25, 3) := by decide +kernel
theorem dX5_add_4 : decode cX5_add 4 = .ok (.aload_n 0, 1) := by decide +kernel
theorem dX5_add_5 : decode cX5_add 5 = .ok (.getfield 7, 3) := by decide +kernel
theorem dX5_add_8 : decode cX5_add 8 = .ok (.arraylength, 1) := by decide +kernel
theorem dX5_add_9 : decode cX5_add 9 = .ok (.if_icmp .lt 5, 3) := by decide +kernel
theorem dX5_add_12 : decode cX5_add 12 = .ok (.iconst 0, 1) := by decide +kernel
theorem dX5_add_13 : decode cX5_add 13 = .ok (.ireturn, 1) := by decide +kernel
theorem dX5_add_14 : decode cX5_add 14 = .ok (.aload_n 0, 1) := by decide +kernel
theorem dX5_add_15 : decode cX5_add 15 = .ok (.getfield 7, 3) := by decide +kernel
theorem dX5_add_18 : decode cX5_add 18 = .ok (.aload_n 0, 1) := by decide +kernel
theorem dX5_add_19 : decode cX5_add 19 = .ok (.getfield 25, 3) := by decide +kernel
theorem dX5_add_22 : decode cX5_add 22 = .ok (.aload_n 1, 1) := by decide +kernel
theorem dX5_add_23 : decode cX5_add 23 = .ok (.getfield 29, 3) := by decide +kernel
theorem dX5_add_26 : decode cX5_add 26 = .ok (.iload_n 2, 1) := by decide +kernel
theorem dX5_add_27 : decode cX5_add 27 = .ok (.iaload, 1) := by decide +kernel
theorem dX5_add_28 : decode cX5_add 28 = .ok (.iastore, 1) := by decide +kernel
theorem dX5_add_29 : decode cX5_add 29 = .ok (.aload_n 0, 1) := by decide +kernel
theorem dX5_add_30 : decode cX5_add 30 = .ok (.getfield 13, 3) := by decide +kernel
theorem dX5_add_33 : decode cX5_add 33 = .ok (.aload_n 0, 1) := by decide +kernel
theorem dX5_add_34 : decode cX5_add 34 = .ok (.getfield 25, 3) := by decide +kernel
theorem dX5_add_37 : decode cX5_add 37 = .ok (.aload_n 1, 1) := by decide +kernel
theorem dX5_add_38 : decode cX5_add 38 = .ok (.getfield 34, 3) := by decide +kernel
theorem dX5_add_41 : decode cX5_add 41 = .ok (.iload_n 2, 1) := by decide +kernel
theorem dX5_add_42 : decode cX5_add 42 = .ok (.iaload, 1) := by decide +kernel
theorem dX5_add_43 : decode cX5_add 43 = .ok (.iastore, 1) := by decide +kernel
theorem dX5_add_44 : decode cX5_add 44 = .ok (.aload_n 0, 1) := by decide +kernel
theorem dX5_add_45 : decode cX5_add 45 = .ok (.getfield 16, 3) := by decide +kernel
theorem dX5_add_48 : decode cX5_add 48 = .ok (.aload_n 0, 1) := by decide +kernel
theorem dX5_add_49 : decode cX5_add 49 = .ok (.getfield 25, 3) := by decide +kernel
theorem dX5_add_52 : decode cX5_add 52 = .ok (.aload_n 1, 1) := by decide +kernel
theorem dX5_add_53 : decode cX5_add 53 = .ok (.getfield 29, 3) := by decide +kernel
theorem dX5_add_56 : decode cX5_add 56 = .ok (.iload_n 3, 1) := by decide +kernel
theorem dX5_add_57 : decode cX5_add 57 = .ok (.iaload, 1) := by decide +kernel
theorem dX5_add_58 : decode cX5_add 58 = .ok (.iastore, 1) := by decide +kernel
theorem dX5_add_59 : decode cX5_add 59 = .ok (.aload_n 0, 1) := by decide +kernel
theorem dX5_add_60 : decode cX5_add 60 = .ok (.getfield 19, 3) := by decide +kernel
theorem dX5_add_63 : decode cX5_add 63 = .ok (.aload_n 0, 1) := by decide +kernel
theorem dX5_add_64 : decode cX5_add 64 = .ok (.getfield 25, 3) := by decide +kernel
theorem dX5_add_67 : decode cX5_add 67 = .ok (.aload_n 1, 1) := by decide +kernel
theorem dX5_add_68 : decode cX5_add 68 = .ok (.getfield 34, 3) := by decide +kernel
theorem dX5_add_71 : decode cX5_add 71 = .ok (.iload_n 3, 1) := by decide +kernel
theorem dX5_add_72 : decode cX5_add 72 = .ok (.iaload, 1) := by decide +kernel
theorem dX5_add_73 : decode cX5_add 73 = .ok (.iastore, 1) := by decide +kernel
theorem dX5_add_74 : decode cX5_add 74 = .ok (.aload_n 0, 1) := by decide +kernel
theorem dX5_add_75 : decode cX5_add 75 = .ok (.getfield 22, 3) := by decide +kernel
theorem dX5_add_78 : decode cX5_add 78 = .ok (.aload_n 0, 1) := by decide +kernel
theorem dX5_add_79 : decode cX5_add 79 = .ok (.getfield 25, 3) := by decide +kernel
theorem dX5_add_82 : decode cX5_add 82 = .ok (.iload 4, 2) := by decide +kernel
theorem dX5_add_84 : decode cX5_add 84 = .ok (.iastore, 1) := by decide +kernel
theorem dX5_add_85 : decode cX5_add 85 = .ok (.aload_n 0, 1) := by decide +kernel
theorem dX5_add_86 : decode cX5_add 86 = .ok (.dup, 1) := by decide +kernel
theorem dX5_add_87 : decode cX5_add 87 = .ok (.getfield 25, 3) := by decide +kernel
theorem dX5_add_90 : decode cX5_add 90 = .ok (.iconst 1, 1) := by decide +kernel
theorem dX5_add_91 : decode cX5_add 91 = .ok (.iadd, 1) := by decide +kernel
theorem dX5_add_92 : decode cX5_add 92 = .ok (.putfield 25, 3) := by decide +kernel
theorem dX5_add_95 : decode cX5_add 95 = .ok (.iconst 1, 1) := by decide +kernel
theorem dX5_add_96 : decode cX5_add 96 = .ok (.ireturn, 1) := by decide +kernel
abbrev M_X5_add : MRec := (yX5_add, cX5_add, 5, (some Jvm.ClassFile.FieldType.boolean), [])
theorem m_X5_add : en_M M_X5_add 4 := ⟨t_1220, t_7, ⟨by decide +kernel, by decide +kernel⟩, by decide +kernel, by decide +kernel, by decide +kernel⟩
theorem dX6_rowLength_0 : decode cX6_rowLength 0 = .ok (.aload_n 0, 1) := by decide +kernel
theorem dX6_rowLength_1 : decode cX6_rowLength 1 = .ok (.getfield 11, 3) := by decide +kernel
theorem dX6_rowLength_4 : decode cX6_rowLength 4 = .ok (.iload_n 1, 1) := by decide +kernel
theorem dX6_rowLength_5 : decode cX6_rowLength 5 = .ok (.iaload, 1) := by decide +kernel
theorem dX6_rowLength_6 : decode cX6_rowLength 6 = .ok (.iconst 3, 1) := by decide +kernel
theorem dX6_rowLength_7 : decode cX6_rowLength 7 = .ok (.if_icmp .ne 11, 3) := by decide +kernel
theorem dX6_rowLength_10 : decode cX6_rowLength 10 = .ok (.iload_n 1, 1) := by decide +kernel
theorem dX6_rowLength_11 : decode cX6_rowLength 11 = .ok (.iconst 2, 1) := by decide +kernel
theorem dX6_rowLength_12 : decode cX6_rowLength 12 = .ok (.iadd, 1) := by decide +kernel
theorem dX6_rowLength_13 : decode cX6_rowLength 13 = .ok (.iload_n 2, 1) := by decide +kernel
theorem dX6_rowLength_14 : decode cX6_rowLength 14 = .ok (.iadd, 1) := by decide +kernel
theorem dX6_rowLength_15 : decode cX6_rowLength 15 = .ok (.goto 6, 3) := by decide +kernel
theorem dX6_rowLength_18 : decode cX6_rowLength 18 = .ok (.iload_n 1, 1) := by decide +kernel
theorem dX6_rowLength_19 : decode cX6_rowLength 19 = .ok (.iconst 1, 1) := by decide +kernel
theorem dX6_rowLength_20 : decode cX6_rowLength 20 = .ok (.iadd, 1) := by decide +kernel
theorem dX6_rowLength_21 : decode cX6_rowLength 21 = .ok (.istore_n 3, 1) := by decide +kernel
theorem dX6_rowLength_22 : decode cX6_rowLength 22 = .ok (.iload_n 3, 1) := by decide +kernel
theorem dX6_rowLength_23 : decode cX6_rowLength 23 = .ok (.aload_n 0, 1) := by decide +kernel
theorem dX6_rowLength_24 : decode cX6_rowLength 24 = .ok (.getfield 21, 3) := by decide +kernel
theorem dX6_rowLength_27 : decode cX6_rowLength 27 = .ok (.if_icmp .ge 12, 3) := by decide +kernel
theorem dX6_rowLength_30 : decode cX6_rowLength 30 = .ok (.aload_n 0, 1) := by decide +kernel
theorem dX6_rowLength_31 : decode cX6_rowLength 31 = .ok (.getfield 11, 3) := by decide +kernel
theorem dX6_rowLength_34 : decode cX6_rowLength 34 = .ok (.iload_n 3, 1) := by decide +kernel
theorem dX6_rowLength_35 : decode cX6_rowLength 35 = .ok (.iaload, 1) := by decide +kernel
theorem dX6_rowLength_36 : decode cX6_rowLength 36 = .ok (.goto 4, 3) := by decide +kernel
theorem dX6_rowLength_39 : decode cX6_rowLength 39 = .ok (.iconst 0, 1) := by decide +kernel
theorem dX6_rowLength_40 : decode cX6_rowLength 40 = .ok (.ireturn, 1) := by decide +kernel
abbrev M_X6_rowLength : MRec := (yX6_rowLength, cX6_rowLength, 4, (some Jvm.ClassFile.FieldType.int), [])
theorem m_X6_rowLength : en_M M_X6_rowLength 2 := ⟨t_1082, t_2, ⟨by decide +kernel, by decide +kernel⟩, by decide +kernel, by decide +kernel, by decide +kernel⟩
