section CAS
theorem dL_find_0 : decode cL_find 0 = .ok (.aload 6, 2) := by decide +kernel
theorem dL_find_2 : decode cL_find 2 = .ok (.iconst 0, 1) := by decide +kernel
theorem dL_find_3 : decode cL_find 3 = .ok (.aload_n 0, 1) := by decide +kernel
theorem dL_find_4 : decode cL_find 4 = .ok (.iload_n 1, 1) := by decide +kernel
theorem dL_find_5 : decode cL_find 5 = .ok (.iload_n 2, 1) := by decide +kernel
theorem dL_find_6 : decode cL_find 6 = .ok (.iload_n 3, 1) := by decide +kernel
theorem dL_find_7 : decode cL_find 7 = .ok (.iload 4, 2) := by decide +kernel
theorem dL_find_9 : decode cL_find 9 = .ok (.iload 5, 2) := by decide +kernel
theorem dL_find_11 : decode cL_find 11 = .ok (.invokevirtual 92, 3) := by decide +kernel
theorem dL_find_14 : decode cL_find 14 = .ok (.i2l, 1) := by decide +kernel
theorem dL_find_15 : decode cL_find 15 = .ok (.lastore, 1) := by decide +kernel
theorem dL_find_16 : decode cL_find 16 = .ok (.goto 7, 3) := by decide +kernel
theorem dL_find_19 : decode cL_find 19 = .ok (.astore 7, 2) := by decide +kernel
theorem dL_find_21 : decode cL_find 21 = .ok (.iconst 1, 1) := by decide +kernel
theorem dL_find_22 : decode cL_find 22 = .ok (.ireturn, 1) := by decide +kernel
theorem dL_find_23 : decode cL_find 23 = .ok (.iconst 0, 1) := by decide +kernel
theorem dL_find_24 : decode cL_find 24 = .ok (.ireturn, 1) := by decide +kernel
theorem dX11_find_0 : decode cX11_find 0 = .ok (.iload_n 1, 1) := by decide +kernel
theorem dX11_find_1 : decode cX11_find 1 = .ok (.ifCond .lt 50, 3) := by decide +kernel
theorem dX11_find_4 : decode cX11_find 4 = .ok (.iload_n 1, 1) := by decide +kernel
theorem dX11_find_5 : decode cX11_find 5 = .ok (.iconst 2, 1) := by decide +kernel
theorem dX11_find_6 : decode cX11_find 6 = .ok (.if_icmp .gt 45, 3) := by decide +kernel
theorem dX11_find_9 : decode cX11_find 9 = .ok (.iload_n 2, 1) := by decide +kernel
theorem dX11_find_10 : decode cX11_find 10 = .ok (.ldc_w 309, 3) := by decide +kernel
theorem dX11_find_13 : decode cX11_find 13 = .ok (.if_icmp .lt 38, 3) := by decide +kernel
theorem dX11_find_16 : decode cX11_find 16 = .ok (.iload_n 3, 1) := by decide +kernel
theorem dX11_find_17 : decode cX11_find 17 = .ok (.ldc_w 309, 3) := by decide +kernel
theorem dX11_find_20 : decode cX11_find 20 = .ok (.if_icmp .lt 31, 3) := by decide +kernel
theorem dX11_find_23 : decode cX11_find 23 = .ok (.iload 4, 2) := by decide +kernel
theorem dX11_find_25 : decode cX11_find 25 = .ok (.ldc_w 292, 3) := by decide +kernel
theorem dX11_find_28 : decode cX11_find 28 = .ok (.if_icmp .gt 23, 3) := by decide +kernel
theorem dX11_find_31 : decode cX11_find 31 = .ok (.iload 5, 2) := by decide +kernel
theorem dX11_find_33 : decode cX11_find 33 = .ok (.ldc_w 292, 3) := by decide +kernel
theorem dX11_find_36 : decode cX11_find 36 = .ok (.if_icmp .gt 15, 3) := by decide +kernel
theorem dX11_find_39 : decode cX11_find 39 = .ok (.iload 4, 2) := by decide +kernel
theorem dX11_find_41 : decode cX11_find 41 = .ok (.iload_n 2, 1) := by decide +kernel
theorem dX11_find_42 : decode cX11_find 42 = .ok (.if_icmp .lt 9, 3) := by decide +kernel
theorem dX11_find_45 : decode cX11_find 45 = .ok (.iload 5, 2) := by decide +kernel
theorem dX11_find_47 : decode cX11_find 47 = .ok (.iload_n 3, 1) := by decide +kernel
theorem dX11_find_48 : decode cX11_find 48 = .ok (.if_icmp .ge 11, 3) := by decide +kernel
theorem dX11_find_51 : decode cX11_find 51 = .ok (.new 116, 3) := by decide +kernel
theorem dX11_find_54 : decode cX11_find 54 = .ok (.dup, 1) := by decide +kernel
theorem dX11_find_55 : decode cX11_find 55 = .ok (.invokespecial 118, 3) := by decide +kernel
theorem dX11_find_58 : decode cX11_find 58 = .ok (.athrow, 1) := by decide +kernel
theorem dX11_find_59 : decode cX11_find 59 = .ok (.aload_n 0, 1) := by decide +kernel
theorem dX11_find_60 : decode cX11_find 60 = .ok (.iconst 0, 1) := by decide +kernel
theorem dX11_find_61 : decode cX11_find 61 = .ok (.putfield 213, 3) := by decide +kernel
theorem dX11_find_64 : decode cX11_find 64 = .ok (.iconst 0, 1) := by decide +kernel
theorem dX11_find_65 : decode cX11_find 65 = .ok (.istore 6, 2) := by decide +kernel
theorem dX11_find_67 : decode cX11_find 67 = .ok (.iload 6, 2) := by decide +kernel
theorem dX11_find_69 : decode cX11_find 69 = .ok (.bipush 32, 2) := by decide +kernel
theorem dX11_find_71 : decode cX11_find 71 = .ok (.if_icmp .ge 61, 3) := by decide +kernel
theorem dX11_find_74 : decode cX11_find 74 = .ok (.aload_n 0, 1) := by decide +kernel
theorem dX11_find_75 : decode cX11_find 75 = .ok (.getfield 11, 3) := by decide +kernel
theorem dX11_find_78 : decode cX11_find 78 = .ok (.iload 6, 2) := by decide +kernel
theorem dX11_find_80 : decode cX11_find 80 = .ok (.aaload, 1) := by decide +kernel
theorem dX11_find_81 : decode cX11_find 81 = .ok (.aload_n 0, 1) := by decide +kernel
theorem dX11_find_82 : decode cX11_find 82 = .ok (.getfield 94, 3) := by decide +kernel
theorem dX11_find_85 : decode cX11_find 85 = .ok (.invokevirtual 305, 3) := by decide +kernel
theorem dX11_find_88 : decode cX11_find 88 = .ok (.ifCond .eq 38, 3) := by decide +kernel
theorem dX11_find_126 : decode cX11_find 126 = .ok (.iinc 6 1, 3) := by decide +kernel
theorem dX11_find_129 : decode cX11_find 129 = .ok (.goto (-62), 3) := by decide +kernel
theorem dX11_find_132 : decode cX11_find 132 = .ok (.aload_n 0, 1) := by decide +kernel
theorem dX11_find_133 : decode cX11_find 133 = .ok (.getfield 213, 3) := by decide +kernel
theorem dX11_find_136 : decode cX11_find 136 = .ok (.ireturn, 1) := by decide +kernel
theorem dX12_find_0 : decode cX12_find 0 = .ok (.aload_n 0, 1) := by decide +kernel
theorem dX12_find_1 : decode cX12_find 1 = .ok (.iconst 0, 1) := by decide +kernel
theorem dX12_find_2 : decode cX12_find 2 = .ok (.putfield 271, 3) := by decide +kernel
theorem dX12_find_5 : decode cX12_find 5 = .ok (.iload_n 1, 1) := by decide +kernel
theorem dX12_find_6 : decode cX12_find 6 = .ok (.i2l, 1) := by decide +kernel
theorem dX12_find_7 : decode cX12_find 7 = .ok (.lconst 0, 1) := by decide +kernel
theorem dX12_find_8 : decode cX12_find 8 = .ok (.ldc2_w 554, 3) := by decide +kernel
theorem dX12_find_11 : decode cX12_find 11 = .ok (.invokestatic 287, 3) := by decide +kernel
theorem dX12_find_14 : decode cX12_find 14 = .ok (.ifCond .eq 53, 3) := by decide +kernel
theorem dX12_find_17 : decode cX12_find 17 = .ok (.iload_n 2, 1) := by decide +kernel
theorem dX12_find_18 : decode cX12_find 18 = .ok (.i2l, 1) := by decide +kernel
theorem dX12_find_19 : decode cX12_find 19 = .ok (.invokestatic 587, 3) := by decide +kernel
theorem dX12_find_22 : decode cX12_find 22 = .ok (.ifCond .eq 45, 3) := by decide +kernel
theorem dX12_find_25 : decode cX12_find 25 = .ok (.iload_n 3, 1) := by decide +kernel
theorem dX12_find_26 : decode cX12_find 26 = .ok (.i2l, 1) := by decide +kernel
theorem dX12_find_27 : decode cX12_find 27 = .ok (.invokestatic 587, 3) := by decide +kernel
theorem dX12_find_30 : decode cX12_find 30 = .ok (.ifCond .eq 37, 3) := by decide +kernel
theorem dX12_find_33 : decode cX12_find 33 = .ok (.iload 4, 2) := by decide +kernel
theorem dX12_find_35 : decode cX12_find 35 = .ok (.i2l, 1) := by decide +kernel
theorem dX12_find_36 : decode cX12_find 36 = .ok (.invokestatic 587, 3) := by decide +kernel
theorem dX12_find_39 : decode cX12_find 39 = .ok (.ifCond .eq 28, 3) := by decide +kernel
theorem dX12_find_42 : decode cX12_find 42 = .ok (.iload 5, 2) := by decide +kernel
theorem dX12_find_44 : decode cX12_find 44 = .ok (.i2l, 1) := by decide +kernel
theorem dX12_find_45 : decode cX12_find 45 = .ok (.invokestatic 587, 3) := by decide +kernel
theorem dX12_find_48 : decode cX12_find 48 = .ok (.ifCond .eq 19, 3) := by decide +kernel
theorem dX12_find_51 : decode cX12_find 51 = .ok (.iload_n 2, 1) := by decide +kernel
theorem dX12_find_52 : decode cX12_find 52 = .ok (.iload 4, 2) := by decide +kernel
theorem dX12_find_54 : decode cX12_find 54 = .ok (.if_icmp .gt 13, 3) := by decide +kernel
theorem dX12_find_57 : decode cX12_find 57 = .ok (.iload_n 3, 1) := by decide +kernel
theorem dX12_find_58 : decode cX12_find 58 = .ok (.iload 5, 2) := by decide +kernel
theorem dX12_find_60 : decode cX12_find 60 = .ok (.if_icmp .gt 7, 3) := by decide +kernel
theorem dX12_find_63 : decode cX12_find 63 = .ok (.iconst 1, 1) := by decide +kernel
theorem dX12_find_64 : decode cX12_find 64 = .ok (.goto 4, 3) := by decide +kernel
theorem dX12_find_67 : decode cX12_find 67 = .ok (.iconst 0, 1) := by decide +kernel
theorem dX12_find_68 : decode cX12_find 68 = .ok (.istore 6, 2) := by decide +kernel
theorem dX12_find_70 : decode cX12_find 70 = .ok (.aload_n 0, 1) := by decide +kernel
theorem dX12_find_71 : decode cX12_find 71 = .ok (.iload 6, 2) := by decide +kernel
theorem dX12_find_73 : decode cX12_find 73 = .ok (.ifCond .ne 7, 3) := by decide +kernel
theorem dX12_find_76 : decode cX12_find 76 = .ok (.iconst 1, 1) := by decide +kernel
theorem dX12_find_77 : decode cX12_find 77 = .ok (.goto 4, 3) := by decide +kernel
theorem dX12_find_80 : decode cX12_find 80 = .ok (.iconst 0, 1) := by decide +kernel
theorem dX12_find_81 : decode cX12_find 81 = .ok (.iconst 1, 1) := by decide +kernel
theorem dX12_find_82 : decode cX12_find 82 = .ok (.invokevirtual 277, 3) := by decide +kernel
theorem dX12_find_85 : decode cX12_find 85 = .ok (.ifCond .eq 5, 3) := by decide +kernel
theorem dX12_find_88 : decode cX12_find 88 = .ok (.iconst 0, 1) := by decide +kernel
theorem dX12_find_89 : decode cX12_find 89 = .ok (.ireturn, 1) := by decide +kernel
theorem dX12_find_90 : decode cX12_find 90 = .ok (.aload_n 0, 1) := by decide +kernel
theorem dX12_find_91 : decode cX12_find 91 = .ok (.iconst 0, 1) := by decide +kernel
theorem dX12_find_92 : decode cX12_find 92 = .ok (.putfield 575, 3) := by decide +kernel
theorem dX12_find_95 : decode cX12_find 95 = .ok (.iconst 0, 1) := by decide +kernel
theorem dX12_find_96 : decode cX12_find 96 = .ok (.istore 7, 2) := by decide +kernel
theorem dX12_find_98 : decode cX12_find 98 = .ok (.iload 7, 2) := by decide +kernel
theorem dX12_find_100 : decode cX12_find 100 = .ok (.bipush 32, 2) := by decide +kernel
theorem dX12_find_102 : decode cX12_find 102 = .ok (.if_icmp .ge 258, 3) := by decide +kernel
theorem dX12_find_105 : decode cX12_find 105 = .ok (.aload_n 0, 1) := by decide +kernel
theorem dX12_find_106 : decode cX12_find 106 = .ok (.iload 7, 2) := by decide +kernel
theorem dX12_find_108 : decode cX12_find 108 = .ok (.invokevirtual 582, 3) := by decide +kernel
theorem dX12_find_111 : decode cX12_find 111 = .ok (.ifCond .ne 6, 3) := by decide +kernel
theorem dX12_find_114 : decode cX12_find 114 = .ok (.goto 240, 3) := by decide +kernel
theorem dX12_find_354 : decode cX12_find 354 = .ok (.iinc 7 1, 3) := by decide +kernel
theorem dX12_find_357 : decode cX12_find 357 = .ok (.goto (-259), 3) := by decide +kernel
theorem dX12_find_360 : decode cX12_find 360 = .ok (.aload_n 0, 1) := by decide +kernel
theorem dX12_find_361 : decode cX12_find 361 = .ok (.getfield 575, 3) := by decide +kernel
theorem dX12_find_364 : decode cX12_find 364 = .ok (.ireturn, 1) := by decide +kernel
theorem dL_law_1697 : decode cL_law 1697 = .ok (.aload_n 1, 1) := by decide +kernel
theorem dL_law_1698 : decode cL_law 1698 = .ok (.aload_n 0, 1) := by decide +kernel
theorem dL_law_1699 : decode cL_law 1699 = .ok (.iload 4, 2) := by decide +kernel
theorem dL_law_1701 : decode cL_law 1701 = .ok (.iconst 1, 1) := by decide +kernel
theorem dL_law_1702 : decode cL_law 1702 = .ok (.iadd, 1) := by decide +kernel
theorem dL_law_1703 : decode cL_law 1703 = .ok (.iaload, 1) := by decide +kernel
theorem dL_law_1704 : decode cL_law 1704 = .ok (.aload_n 0, 1) := by decide +kernel
theorem dL_law_1705 : decode cL_law 1705 = .ok (.iload 4, 2) := by decide +kernel
theorem dL_law_1707 : decode cL_law 1707 = .ok (.iconst 2, 1) := by decide +kernel
theorem dL_law_1708 : decode cL_law 1708 = .ok (.iadd, 1) := by decide +kernel
theorem dL_law_1709 : decode cL_law 1709 = .ok (.iaload, 1) := by decide +kernel
theorem dL_law_1710 : decode cL_law 1710 = .ok (.aload_n 0, 1) := by decide +kernel
theorem dL_law_1711 : decode cL_law 1711 = .ok (.iload 4, 2) := by decide +kernel
theorem dL_law_1713 : decode cL_law 1713 = .ok (.iconst 3, 1) := by decide +kernel
theorem dL_law_1714 : decode cL_law 1714 = .ok (.iadd, 1) := by decide +kernel
theorem dL_law_1715 : decode cL_law 1715 = .ok (.iaload, 1) := by decide +kernel
theorem dL_law_1716 : decode cL_law 1716 = .ok (.aload_n 0, 1) := by decide +kernel
theorem dL_law_1717 : decode cL_law 1717 = .ok (.iload 4, 2) := by decide +kernel
theorem dL_law_1719 : decode cL_law 1719 = .ok (.iconst 4, 1) := by decide +kernel
theorem dL_law_1720 : decode cL_law 1720 = .ok (.iadd, 1) := by decide +kernel
theorem dL_law_1721 : decode cL_law 1721 = .ok (.iaload, 1) := by decide +kernel
theorem dL_law_1722 : decode cL_law 1722 = .ok (.aload_n 0, 1) := by decide +kernel
theorem dL_law_1723 : decode cL_law 1723 = .ok (.iload 4, 2) := by decide +kernel
theorem dL_law_1725 : decode cL_law 1725 = .ok (.iconst 5, 1) := by decide +kernel
theorem dL_law_1726 : decode cL_law 1726 = .ok (.iadd, 1) := by decide +kernel
theorem dL_law_1727 : decode cL_law 1727 = .ok (.iaload, 1) := by decide +kernel
theorem dL_law_1728 : decode cL_law 1728 = .ok (.aload_n 3, 1) := by decide +kernel
theorem dL_law_1729 : decode cL_law 1729 = .ok (.invokestatic 211, 3) := by decide +kernel
theorem dL_law_1732 : decode cL_law 1732 = .ok (.istore 5, 2) := by decide +kernel
theorem dL_law_1734 : decode cL_law 1734 = .ok (.aload_n 2, 1) := by decide +kernel
theorem dL_law_1735 : decode cL_law 1735 = .ok (.aload_n 0, 1) := by decide +kernel
theorem dL_law_1736 : decode cL_law 1736 = .ok (.iload 4, 2) := by decide +kernel
theorem dL_law_1738 : decode cL_law 1738 = .ok (.iconst 1, 1) := by decide +kernel
theorem dL_law_1739 : decode cL_law 1739 = .ok (.iadd, 1) := by decide +kernel
theorem dL_law_1740 : decode cL_law 1740 = .ok (.iaload, 1) := by decide +kernel
theorem dL_law_1741 : decode cL_law 1741 = .ok (.aload_n 0, 1) := by decide +kernel
theorem dL_law_1742 : decode cL_law 1742 = .ok (.iload 4, 2) := by decide +kernel
theorem dL_law_1744 : decode cL_law 1744 = .ok (.iconst 2, 1) := by decide +kernel
theorem dL_law_1745 : decode cL_law 1745 = .ok (.iadd, 1) := by decide +kernel
theorem dL_law_1746 : decode cL_law 1746 = .ok (.iaload, 1) := by decide +kernel
theorem dL_law_1747 : decode cL_law 1747 = .ok (.aload_n 0, 1) := by decide +kernel
theorem dL_law_1748 : decode cL_law 1748 = .ok (.iload 4, 2) := by decide +kernel
theorem dL_law_1750 : decode cL_law 1750 = .ok (.iconst 3, 1) := by decide +kernel
theorem dL_law_1751 : decode cL_law 1751 = .ok (.iadd, 1) := by decide +kernel
theorem dL_law_1752 : decode cL_law 1752 = .ok (.iaload, 1) := by decide +kernel
theorem dL_law_1753 : decode cL_law 1753 = .ok (.aload_n 0, 1) := by decide +kernel
theorem dL_law_1754 : decode cL_law 1754 = .ok (.iload 4, 2) := by decide +kernel
theorem dL_law_1756 : decode cL_law 1756 = .ok (.iconst 4, 1) := by decide +kernel
theorem dL_law_1757 : decode cL_law 1757 = .ok (.iadd, 1) := by decide +kernel
theorem dL_law_1758 : decode cL_law 1758 = .ok (.iaload, 1) := by decide +kernel
theorem dL_law_1759 : decode cL_law 1759 = .ok (.aload_n 0, 1) := by decide +kernel
theorem dL_law_1760 : decode cL_law 1760 = .ok (.iload 4, 2) := by decide +kernel
theorem dL_law_1762 : decode cL_law 1762 = .ok (.iconst 5, 1) := by decide +kernel
theorem dL_law_1763 : decode cL_law 1763 = .ok (.iadd, 1) := by decide +kernel
theorem dL_law_1764 : decode cL_law 1764 = .ok (.iaload, 1) := by decide +kernel
theorem dL_law_1765 : decode cL_law 1765 = .ok (.invokevirtual 213, 3) := by decide +kernel
theorem dL_law_1768 : decode cL_law 1768 = .ok (.istore 6, 2) := by decide +kernel
theorem dL_law_1770 : decode cL_law 1770 = .ok (.aload_n 2, 1) := by decide +kernel
theorem dL_law_1771 : decode cL_law 1771 = .ok (.invokevirtual 136, 3) := by decide +kernel
theorem dL_law_1774 : decode cL_law 1774 = .ok (.iload 5, 2) := by decide +kernel
theorem dL_law_1776 : decode cL_law 1776 = .ok (.if_icmp .eq 5, 3) := by decide +kernel
theorem dL_law_1781 : decode cL_law 1781 = .ok (.iload 5, 2) := by decide +kernel
theorem dL_law_1783 : decode cL_law 1783 = .ok (.ifCond .ne 15, 3) := by decide +kernel
theorem dL_law_1786 : decode cL_law 1786 = .ok (.aload_n 3, 1) := by decide +kernel
theorem dL_law_1787 : decode cL_law 1787 = .ok (.iconst 0, 1) := by decide +kernel
theorem dL_law_1788 : decode cL_law 1788 = .ok (.laload, 1) := by decide +kernel
theorem dL_law_1789 : decode cL_law 1789 = .ok (.iload 6, 2) := by decide +kernel
theorem dL_law_1791 : decode cL_law 1791 = .ok (.i2l, 1) := by decide +kernel
theorem dL_law_1792 : decode cL_law 1792 = .ok (.lcmp, 1) := by decide +kernel
theorem dL_law_1793 : decode cL_law 1793 = .ok (.ifCond .eq 5, 3) := by decide +kernel
theorem dL_law_1798 : decode cL_law 1798 = .ok (.goto 651, 3) := by decide +kernel
abbrev M_L_find : MRec := (yL_find, cL_find, 8, (some Jvm.ClassFile.FieldType.int), [((0 : Nat), (16 : Nat), (19 : Nat), (19 : Nat))])
theorem m_L_find : en_M M_L_find 7 := ⟨t_2244, t_0, ⟨by decide +kernel, by decide +kernel⟩, by decide +kernel, by decide +kernel, by decide +kernel⟩
abbrev M_X11_find : MRec := (yX11_find, cX11_find, 7, (some Jvm.ClassFile.FieldType.int), [])
theorem m_X11_find : en_M M_X11_find 5 := ⟨t_2248, t_1, ⟨by decide +kernel, by decide +kernel⟩, by decide +kernel, by decide +kernel, by decide +kernel⟩
abbrev M_X12_find : MRec := (yX12_find, cX12_find, 11, (some Jvm.ClassFile.FieldType.int), [])
theorem m_X12_find : en_M M_X12_find 5 := ⟨t_3132, t_14, ⟨by decide +kernel, by decide +kernel⟩, by decide +kernel, by decide +kernel, by decide +kernel⟩
set_option maxRecDepth 10000 in
theorem q5765 {l : Launch} {E : EE} (hl : l.stackTraces = false) {h : HP} {a0 : Int32} {a1 : Int32} {a2 : Int32} {a3 : Int32} {a4 : Int32} (c0 : a0.toInt < 0) : en_C l E M_X11_find 6 1 6 [.ref 32, .int a0, .int a1, .int a2, .int a3, .int a4] h (pT "java/lang/IllegalArgumentException" [] h (fun _ => True)) := by
  refine en_mk m_X11_find rfl hl (Nat.le_of_ble_eq_true rfl) ?_
  refine x_iload_n (M := M_X11_find) dX11_find_0 rfl ?_
  refine x_if_lt (M := M_X11_find) (tgt := 51) dX11_find_1 (by decide) (fun _ => ?_) (fun q => absurd ((bi_lt rfl (by decide +kernel)).mpr (by omega : (a0.toInt < 0 : Prop))) q)
  exact x_throw (M := M_X11_find) (names := en_nm) rfl dX11_find_51 dX11_find_54 dX11_find_55 dX11_find_58 (by decide +kernel) en_nm_ok (Or.inl t_721) (Or.inl t_19) (at_X11_IllegalArgumentException_118) (Nat.le_of_ble_eq_true rfl) (Nat.le_of_ble_eq_true rfl) (Nat.le_of_ble_eq_true rfl) (Nat.le_of_ble_eq_true rfl) (fun n9 => ⟨rfl, (fr_tr (fr_app (List.replicate n9 none)) (fun _ h => nomatch h) fr_rf), trivial⟩)
set_option maxRecDepth 10000 in
theorem q5770 {l : Launch} {E : EE} (hl : l.stackTraces = false) {h : HP} {a0 : Int32} {a1 : Int32} {a2 : Int32} {a3 : Int32} {a4 : Int32} (c0 : a0.toInt < 0) (o5766 : ob h 32 = some (.inr (14, [.ref 33, .ref 162, .ref 166, .int (0 : Int32), .int (0 : Int32), .int (0 : Int32), .ref 167, .ref 170, .ref 173, .ref 177, .ref 193, .ref 208, .ref 222, .ref 238, .ref 252, .ref 274, .ref 275, .ref 276, .int (0 : Int32)]))) : en_C l E M_L_find 7 1 6 [.ref 32, .int a0, .int a1, .int a2, .int a3, .int a4, .ref 359] h (pF (some (.int (Int32.ofInt 1))) [] h (fun _ => True)) := by
  refine en_mkW m_L_find rfl hl (Nat.le_of_ble_eq_true rfl) ?_
  refine x_aload (M := M_L_find) dL_find_0 rfl ?_
  refine x_iconst (M := M_L_find) dL_find_2 ?_
  refine x_aload_n (M := M_L_find) dL_find_3 rfl ?_
  refine x_iload_n (M := M_L_find) dL_find_4 rfl ?_
  refine x_iload_n (M := M_L_find) dL_find_5 rfl ?_
  refine x_iload_n (M := M_L_find) dL_find_6 rfl ?_
  refine x_iload (M := M_L_find) dL_find_7 rfl ?_
  refine x_iload (M := M_L_find) dL_find_9 rfl ?_
  refine y_callVHX (M := M_L_find) (M' := M_X11_find) (i9 := 7) (nx := 21) rfl dL_find_11 m_X11_find t_2245 t_2246 t_2247 o5766 rfl (q5765 hl c0) rfl rfl (Nat.le_of_ble_eq_true rfl) (Nat.le_of_ble_eq_true rfl) (Nat.le_of_ble_eq_true rfl) (Nat.le_of_ble_eq_true rfl) (en_hdm (k0 := 7) [] [] rfl (fun _ h => nomatch h) (by decide +kernel) (by decide) t_716 n_723 dL_find_19) (by decide) rfl (fun h5767 f5768 w5769 => ?_)
  refine x_iconst (M := M_L_find) dL_find_21 ?_
  exact x_iret (M := M_L_find) dL_find_22 rfl ⟨rfl, (fr_tr f5768 (fun _ h => nomatch h) fr_rf), trivial⟩ (Nat.le_of_ble_eq_true rfl) (Nat.le_of_ble_eq_true rfl)
set_option maxRecDepth 10000 in
theorem q5779 {l : Launch} {E : EE} (hl : l.stackTraces = false) {h : HP} {a0 : Int32} (c0 : a0.toInt < 0) : en_C l E M_X12_in 0 0 0 [.long (a0.toInt64), .long (Int64.ofInt 0), .long (Int64.ofInt 2)] h (pR (some (.int (Int32.ofInt 0))) h) := by
  refine en_mk m_X12_in rfl hl (Nat.le_of_ble_eq_true rfl) ?_
  refine x_lload_n (M := M_X12_in) dX12_in_0 rfl ?_
  refine x_lload_n (M := M_X12_in) dX12_in_1 rfl ?_
  refine x_lcmp (M := M_X12_in) dX12_in_2 ?_
  refine x_if_lt (M := M_X12_in) (tgt := 17) dX12_in_3 (by decide) (fun _ => ?_) (fun q => absurd ((bc_lt (i_i2l rfl) (by decide +kernel)).mpr (by omega : (a0.toInt < 0 : Prop))) q)
  refine x_iconst (M := M_X12_in) dX12_in_17 ?_
  exact x_zret (M := M_X12_in) dX12_in_18 rfl (by decide) ⟨rfl, rfl⟩ (Nat.le_of_ble_eq_true rfl) (Nat.le_of_ble_eq_true rfl)
set_option maxRecDepth 10000 in
theorem q5784 {l : Launch} {E : EE} (hl : l.stackTraces = false) {h : HP} {a0 : Int32} {a1 : Int32} {a2 : Int32} {a3 : Int32} {a4 : Int32} {dg : Int32} (c0 : a0.toInt < 0) (o5775 : ob h 277 = some (.inr (15, (RB dg)))) : en_C l E M_X12_find 1 0 0 [.ref 277, .int a0, .int a1, .int a2, .int a3, .int a4] h (pF (some (.int (Int32.ofInt 0))) [277] h (fun h' => ob h' 277 = some (.inr (15, ((RB dg).set 0 (.int (Int32.ofInt 1))))) ∧ True)) := by
  refine en_mk m_X12_find rfl hl (Nat.le_of_ble_eq_true rfl) ?_
  refine x_aload_n (M := M_X12_find) dX12_find_0 rfl ?_
  refine x_iconst (M := M_X12_find) dX12_find_1 ?_
  refine y_put (M := M_X12_find) (ci := 15) (C := RX12) (T := TX12) (N := 135) (ty := tyX12) cl15 dX12_find_2 o5775 0 (by decide) t_2391 (Or.inl rfl) (Nat.le_of_ble_eq_true rfl) rfl (fun h5776 w5777 f5778 => ?_)
  refine x_iload_n (M := M_X12_find) dX12_find_5 rfl ?_
  refine x_i2l (M := M_X12_find) dX12_find_6 ?_
  refine x_lconst (M := M_X12_find) dX12_find_7 ?_
  refine x_ldc2 (M := M_X12_find) dX12_find_8 t_3091 ?_
  refine x_norm (M := M_X12_find) (st' := [.long (Int64.ofInt 2), .long (Int64.ofInt 0), .long (a0.toInt64)]) rfl (vj_cons (by decide +kernel : (2 : Int64) = (Int64.ofInt 2)) (vj_cons (by decide +kernel : (Int64.ofNat ((0 : Fin 2) : Nat)) = (Int64.ofInt 0)) rfl)) rfl rfl rfl ?_
  refine x_callSR (M := M_X12_find) (M' := M_X12_in) rfl rfl dX12_find_11 m_X12_in t_2818 t_2819 (q5779 hl c0) rfl rfl (Nat.le_of_ble_eq_true rfl) (Nat.le_of_ble_eq_true rfl) (Nat.le_of_ble_eq_true rfl) (Nat.le_of_ble_eq_true rfl) ?_
  refine x_if_eq (M := M_X12_find) (tgt := 67) dX12_find_14 (by decide) (fun _ => ?_) (fun q => absurd q (by decide +kernel))
  refine x_iconst (M := M_X12_find) dX12_find_67 ?_
  refine x_istore (M := M_X12_find) dX12_find_68 (Nat.le_of_ble_eq_true rfl) rfl ?_
  refine x_aload_n (M := M_X12_find) dX12_find_70 rfl ?_
  refine x_iload (M := M_X12_find) dX12_find_71 rfl ?_
  refine x_if_ne (M := M_X12_find) (tgt := 80) dX12_find_73 (by decide) (fun q => absurd q (by decide +kernel)) (fun _ => ?_)
  refine x_iconst (M := M_X12_find) dX12_find_76 ?_
  refine x_goto (M := M_X12_find) (tgt := 81) dX12_find_77 (by decide) ?_
  refine x_iconst (M := M_X12_find) dX12_find_81 ?_
  refine y_callVR (M := M_X12_find) (M' := M_X12_fails) rfl rfl dX12_find_82 m_X12_fails t_2805 t_2807 s_157 (q22 hl w5777) rfl rfl w5777 rfl (Nat.le_of_ble_eq_true rfl) (Nat.le_of_ble_eq_true rfl) (Nat.le_of_ble_eq_true rfl) (Nat.le_of_ble_eq_true rfl) (fun h5780 f5781 w5782 => ?_)
  obtain ⟨o5783, -⟩ := w5782
  refine x_if_eq (M := M_X12_find) (tgt := 90) dX12_find_85 (by decide) (fun q => absurd q (by decide +kernel)) (fun _ => ?_)
  refine x_iconst (M := M_X12_find) dX12_find_88 ?_
  exact x_iret (M := M_X12_find) dX12_find_89 rfl ⟨rfl, (fr_tr f5781 (by decide) (fr_tr f5778 (by decide) fr_rf)), ⟨o5783, trivial⟩⟩ (Nat.le_of_ble_eq_true rfl) (Nat.le_of_ble_eq_true rfl)
set_option maxRecDepth 10000 in
theorem lc23_0 {l : Launch} {E : EE} (hl : l.stackTraces = false) (nm : String) {xs : Nat → Int32} (hx : E.2.2.2.2 0 = some (7, xs)) {h : HP} {a0 : Int32} {a1 : Int32} {a2 : Int32} {a3 : Int32} {a4 : Int32} {dg : Int32} (e2 : xs 2 = a0) (e3 : xs 3 = a1) (e4 : xs 4 = a2) (e5 : xs 5 = a3) (e6 : xs 6 = a4) (c0 : a0.toInt < 0) (o5771 : ob h 32 = some (.inr (14, [.ref 33, .ref 162, .ref 166, .int (0 : Int32), .int (0 : Int32), .int (0 : Int32), .ref 167, .ref 170, .ref 173, .ref 177, .ref 193, .ref 208, .ref 222, .ref 238, .ref 252, .ref 274, .ref 275, .ref 276, .int (0 : Int32)]))) (o5785 : ob h 277 = some (.inr (15, (RB dg)))) : XX l E (M_law nm) 1312 342628 8074320 (fun o _ => o = .inl (some (.int 1))) 1697 [some (.ref 0), some (.ref 32), some (.ref 277), some (.ref 359), some (.int (Int32.ofInt 1)), none, none, none] [] h 328 2463747 := by
  refine x_aload_n (M := (M_law nm)) dL_law_1697 rfl ?_
  refine x_aload_n (M := (M_law nm)) dL_law_1698 rfl ?_
  refine x_iload (M := (M_law nm)) dL_law_1699 rfl ?_
  refine x_iconst (M := (M_law nm)) dL_law_1701 ?_
  refine x_iadd (M := (M_law nm)) dL_law_1702 ?_
  refine x_sald (M := (M_law nm)) dL_law_1703 (by decide) hx (vp_inD (by decide +kernel)) ?_
  refine x_top (M := (M_law nm)) (y := a0) ((congrArg xs (by decide +kernel : ((Int32.ofInt 1) + (Int32.ofInt 1)).toNatClampNeg = 2)).trans e2) ?_
  refine x_aload_n (M := (M_law nm)) dL_law_1704 rfl ?_
  refine x_iload (M := (M_law nm)) dL_law_1705 rfl ?_
  refine x_iconst (M := (M_law nm)) dL_law_1707 ?_
  refine x_iadd (M := (M_law nm)) dL_law_1708 ?_
  refine x_sald (M := (M_law nm)) dL_law_1709 (by decide) hx (vp_inD (by decide +kernel)) ?_
  refine x_top (M := (M_law nm)) (y := a1) ((congrArg xs (by decide +kernel : ((Int32.ofInt 1) + (Int32.ofInt 2)).toNatClampNeg = 3)).trans e3) ?_
  refine x_aload_n (M := (M_law nm)) dL_law_1710 rfl ?_
  refine x_iload (M := (M_law nm)) dL_law_1711 rfl ?_
  refine x_iconst (M := (M_law nm)) dL_law_1713 ?_
  refine x_iadd (M := (M_law nm)) dL_law_1714 ?_
  refine x_sald (M := (M_law nm)) dL_law_1715 (by decide) hx (vp_inD (by decide +kernel)) ?_
  refine x_top (M := (M_law nm)) (y := a2) ((congrArg xs (by decide +kernel : ((Int32.ofInt 1) + (Int32.ofInt 3)).toNatClampNeg = 4)).trans e4) ?_
  refine x_aload_n (M := (M_law nm)) dL_law_1716 rfl ?_
  refine x_iload (M := (M_law nm)) dL_law_1717 rfl ?_
  refine x_iconst (M := (M_law nm)) dL_law_1719 ?_
  refine x_iadd (M := (M_law nm)) dL_law_1720 ?_
  refine x_sald (M := (M_law nm)) dL_law_1721 (by decide) hx (vp_inD (by decide +kernel)) ?_
  refine x_top (M := (M_law nm)) (y := a3) ((congrArg xs (by decide +kernel : ((Int32.ofInt 1) + (Int32.ofInt 4)).toNatClampNeg = 5)).trans e5) ?_
  refine x_aload_n (M := (M_law nm)) dL_law_1722 rfl ?_
  refine x_iload (M := (M_law nm)) dL_law_1723 rfl ?_
  refine x_iconst (M := (M_law nm)) dL_law_1725 ?_
  refine x_iadd (M := (M_law nm)) dL_law_1726 ?_
  refine x_sald (M := (M_law nm)) dL_law_1727 (by decide) hx (vp_inD (by decide +kernel)) ?_
  refine x_top (M := (M_law nm)) (y := a4) ((congrArg xs (by decide +kernel : ((Int32.ofInt 1) + (Int32.ofInt 5)).toNatClampNeg = 6)).trans e6) ?_
  refine x_aload_n (M := (M_law nm)) dL_law_1728 rfl ?_
  refine y_callSW (M := (M_law nm)) (M' := M_L_find) rfl rfl dL_law_1729 m_L_find t_2242 t_2243 (q5770 hl c0 o5771) rfl rfl (Nat.le_of_ble_eq_true rfl) (Nat.le_of_ble_eq_true rfl) (Nat.le_of_ble_eq_true rfl) (Nat.le_of_ble_eq_true rfl) (fun h5772 f5773 w5774 => ?_)
  refine x_istore (M := (M_law nm)) dL_law_1732 (Nat.le_of_ble_eq_true rfl) rfl ?_
  refine x_aload_n (M := (M_law nm)) dL_law_1734 rfl ?_
  refine x_aload_n (M := (M_law nm)) dL_law_1735 rfl ?_
  refine x_iload (M := (M_law nm)) dL_law_1736 rfl ?_
  refine x_iconst (M := (M_law nm)) dL_law_1738 ?_
  refine x_iadd (M := (M_law nm)) dL_law_1739 ?_
  refine x_sald (M := (M_law nm)) dL_law_1740 (by decide) hx (vp_inD (by decide +kernel)) ?_
  refine x_top (M := (M_law nm)) (y := a0) ((congrArg xs (by decide +kernel : ((Int32.ofInt 1) + (Int32.ofInt 1)).toNatClampNeg = 2)).trans e2) ?_
  refine x_aload_n (M := (M_law nm)) dL_law_1741 rfl ?_
  refine x_iload (M := (M_law nm)) dL_law_1742 rfl ?_
  refine x_iconst (M := (M_law nm)) dL_law_1744 ?_
  refine x_iadd (M := (M_law nm)) dL_law_1745 ?_
  refine x_sald (M := (M_law nm)) dL_law_1746 (by decide) hx (vp_inD (by decide +kernel)) ?_
  refine x_top (M := (M_law nm)) (y := a1) ((congrArg xs (by decide +kernel : ((Int32.ofInt 1) + (Int32.ofInt 2)).toNatClampNeg = 3)).trans e3) ?_
  refine x_aload_n (M := (M_law nm)) dL_law_1747 rfl ?_
  refine x_iload (M := (M_law nm)) dL_law_1748 rfl ?_
  refine x_iconst (M := (M_law nm)) dL_law_1750 ?_
  refine x_iadd (M := (M_law nm)) dL_law_1751 ?_
  refine x_sald (M := (M_law nm)) dL_law_1752 (by decide) hx (vp_inD (by decide +kernel)) ?_
  refine x_top (M := (M_law nm)) (y := a2) ((congrArg xs (by decide +kernel : ((Int32.ofInt 1) + (Int32.ofInt 3)).toNatClampNeg = 4)).trans e4) ?_
  refine x_aload_n (M := (M_law nm)) dL_law_1753 rfl ?_
  refine x_iload (M := (M_law nm)) dL_law_1754 rfl ?_
  refine x_iconst (M := (M_law nm)) dL_law_1756 ?_
  refine x_iadd (M := (M_law nm)) dL_law_1757 ?_
  refine x_sald (M := (M_law nm)) dL_law_1758 (by decide) hx (vp_inD (by decide +kernel)) ?_
  refine x_top (M := (M_law nm)) (y := a3) ((congrArg xs (by decide +kernel : ((Int32.ofInt 1) + (Int32.ofInt 4)).toNatClampNeg = 5)).trans e5) ?_
  refine x_aload_n (M := (M_law nm)) dL_law_1759 rfl ?_
  refine x_iload (M := (M_law nm)) dL_law_1760 rfl ?_
  refine x_iconst (M := (M_law nm)) dL_law_1762 ?_
  refine x_iadd (M := (M_law nm)) dL_law_1763 ?_
  refine x_sald (M := (M_law nm)) dL_law_1764 (by decide) hx (vp_inD (by decide +kernel)) ?_
  refine x_top (M := (M_law nm)) (y := a4) ((congrArg xs (by decide +kernel : ((Int32.ofInt 1) + (Int32.ofInt 5)).toNatClampNeg = 6)).trans e6) ?_
  have o5786 := (f5773 277 _ (by decide) o5785)
  refine y_callVR (M := (M_law nm)) (M' := M_X12_find) rfl rfl dL_law_1765 m_X12_find t_3129 t_3130 t_3131 (q5784 hl c0 o5786) rfl rfl o5786 rfl (Nat.le_of_ble_eq_true rfl) (Nat.le_of_ble_eq_true rfl) (Nat.le_of_ble_eq_true rfl) (Nat.le_of_ble_eq_true rfl) (fun h5787 f5788 w5789 => ?_)
  obtain ⟨o5790, -⟩ := w5789
  refine x_istore (M := (M_law nm)) dL_law_1768 (Nat.le_of_ble_eq_true rfl) rfl ?_
  refine x_aload_n (M := (M_law nm)) dL_law_1770 rfl ?_
  refine x_callVR (M := (M_law nm)) (M' := M_X12_thrown) rfl rfl dL_law_1771 m_X12_thrown t_2797 t_2798 t_2799 (q35 hl o5790) rfl rfl o5790 rfl (Nat.le_of_ble_eq_true rfl) (Nat.le_of_ble_eq_true rfl) (Nat.le_of_ble_eq_true rfl) (Nat.le_of_ble_eq_true rfl) ?_
  refine x_iload (M := (M_law nm)) dL_law_1774 rfl ?_
  refine x_icmp_eq (M := (M_law nm)) (tgt := 1781) dL_law_1776 (by decide) (fun _ => ?_) (fun q => absurd q (by decide +kernel))
  refine x_iload (M := (M_law nm)) dL_law_1781 rfl ?_
  refine x_if_ne (M := (M_law nm)) (tgt := 1798) dL_law_1783 (by decide) (fun _ => ?_) (fun q => absurd q (by decide +kernel))
  refine x_goto (M := (M_law nm)) (tgt := 2449) dL_law_1798 (by decide) ?_
  refine x_iinc (M := (M_law nm)) dL_law_2449 rfl (Nat.le_of_ble_eq_true rfl) rfl ?_
  refine x_lvs (M := (M_law nm)) (lv' := [some (.ref 0), some (.ref 32), some (.ref 277), some (.ref 359), some (.int (Int32.ofInt 7)), some (.int (Int32.ofInt 1)), some (.int (Int32.ofInt 0)), none]) (by rw [(by decide +kernel : (Int32.ofInt 1) + Int32.ofInt 6 = (Int32.ofInt 7))] <;> rfl) ?_
  refine x_goto (M := (M_law nm)) (tgt := 33) dL_law_2452 (by decide) ?_
  refine x_iload (M := (M_law nm)) dL_law_33 rfl ?_
  refine x_aload_n (M := (M_law nm)) dL_law_35 rfl ?_
  refine x_slen (M := (M_law nm)) dL_law_36 (by decide) hx ?_
  refine x_bipush (M := (M_law nm)) dL_law_37 ?_
  refine x_isub (M := (M_law nm)) dL_law_39 ?_
  refine x_icmp_gt (M := (M_law nm)) (tgt := 2455) dL_law_40 (by decide) (fun _ => ?_) (fun q => absurd q (by decide +kernel))
  refine x_iconst (M := (M_law nm)) dL_law_2455 ?_
  exact x_zret (M := (M_law nm)) dL_law_2456 rfl (by decide) rfl (Nat.le_of_ble_eq_true rfl) (Nat.le_of_ble_eq_true rfl)
set_option maxRecDepth 10000 in
theorem q5792 {l : Launch} {E : EE} (hl : l.stackTraces = false) {h : HP} {a0 : Int32} {a1 : Int32} {a2 : Int32} {a3 : Int32} {a4 : Int32} (c0 : ¬ (a0.toInt < 0)) (c1 : 2 < a0.toInt) : en_C l E M_X11_find 6 1 6 [.ref 32, .int a0, .int a1, .int a2, .int a3, .int a4] h (pT "java/lang/IllegalArgumentException" [] h (fun _ => True)) := by
  refine en_mk m_X11_find rfl hl (Nat.le_of_ble_eq_true rfl) ?_
  refine x_iload_n (M := M_X11_find) dX11_find_0 rfl ?_
  refine x_if_lt (M := M_X11_find) (tgt := 51) dX11_find_1 (by decide) (fun q => absurd ((bi_lt rfl (by decide +kernel)).mp q) (by omega : ¬ (a0.toInt < 0))) (fun _ => ?_)
  refine x_iload_n (M := M_X11_find) dX11_find_4 rfl ?_
  refine x_iconst (M := M_X11_find) dX11_find_5 ?_
  refine x_icmp_gt (M := M_X11_find) (tgt := 51) dX11_find_6 (by decide) (fun _ => ?_) (fun q => absurd ((bi_lt (by decide +kernel) rfl).mpr (by omega : (2 < a0.toInt : Prop))) q)
  exact x_throw (M := M_X11_find) (names := en_nm) rfl dX11_find_51 dX11_find_54 dX11_find_55 dX11_find_58 (by decide +kernel) en_nm_ok (Or.inl t_721) (Or.inl t_19) (at_X11_IllegalArgumentException_118) (Nat.le_of_ble_eq_true rfl) (Nat.le_of_ble_eq_true rfl) (Nat.le_of_ble_eq_true rfl) (Nat.le_of_ble_eq_true rfl) (fun n9 => ⟨rfl, (fr_tr (fr_app (List.replicate n9 none)) (fun _ h => nomatch h) fr_rf), trivial⟩)
set_option maxRecDepth 10000 in
theorem q5797 {l : Launch} {E : EE} (hl : l.stackTraces = false) {h : HP} {a0 : Int32} {a1 : Int32} {a2 : Int32} {a3 : Int32} {a4 : Int32} (c0 : ¬ (a0.toInt < 0)) (c1 : 2 < a0.toInt) (o5793 : ob h 32 = some (.inr (14, [.ref 33, .ref 162, .ref 166, .int (0 : Int32), .int (0 : Int32), .int (0 : Int32), .ref 167, .ref 170, .ref 173, .ref 177, .ref 193, .ref 208, .ref 222, .ref 238, .ref 252, .ref 274, .ref 275, .ref 276, .int (0 : Int32)]))) : en_C l E M_L_find 7 1 6 [.ref 32, .int a0, .int a1, .int a2, .int a3, .int a4, .ref 359] h (pF (some (.int (Int32.ofInt 1))) [] h (fun _ => True)) := by
  refine en_mkW m_L_find rfl hl (Nat.le_of_ble_eq_true rfl) ?_
  refine x_aload (M := M_L_find) dL_find_0 rfl ?_
  refine x_iconst (M := M_L_find) dL_find_2 ?_
  refine x_aload_n (M := M_L_find) dL_find_3 rfl ?_
  refine x_iload_n (M := M_L_find) dL_find_4 rfl ?_
  refine x_iload_n (M := M_L_find) dL_find_5 rfl ?_
  refine x_iload_n (M := M_L_find) dL_find_6 rfl ?_
  refine x_iload (M := M_L_find) dL_find_7 rfl ?_
  refine x_iload (M := M_L_find) dL_find_9 rfl ?_
  refine y_callVHX (M := M_L_find) (M' := M_X11_find) (i9 := 7) (nx := 21) rfl dL_find_11 m_X11_find t_2245 t_2246 t_2247 o5793 rfl (q5792 hl c0 c1) rfl rfl (Nat.le_of_ble_eq_true rfl) (Nat.le_of_ble_eq_true rfl) (Nat.le_of_ble_eq_true rfl) (Nat.le_of_ble_eq_true rfl) (en_hdm (k0 := 7) [] [] rfl (fun _ h => nomatch h) (by decide +kernel) (by decide) t_716 n_723 dL_find_19) (by decide) rfl (fun h5794 f5795 w5796 => ?_)
  refine x_iconst (M := M_L_find) dL_find_21 ?_
  exact x_iret (M := M_L_find) dL_find_22 rfl ⟨rfl, (fr_tr f5795 (fun _ h => nomatch h) fr_rf), trivial⟩ (Nat.le_of_ble_eq_true rfl) (Nat.le_of_ble_eq_true rfl)
set_option maxRecDepth 10000 in
theorem q5806 {l : Launch} {E : EE} (hl : l.stackTraces = false) {h : HP} {a0 : Int32} (c0 : ¬ (a0.toInt < 0)) (c1 : 2 < a0.toInt) : en_C l E M_X12_in 0 0 0 [.long (a0.toInt64), .long (Int64.ofInt 0), .long (Int64.ofInt 2)] h (pR (some (.int (Int32.ofInt 0))) h) := by
  refine en_mk m_X12_in rfl hl (Nat.le_of_ble_eq_true rfl) ?_
  refine x_lload_n (M := M_X12_in) dX12_in_0 rfl ?_
  refine x_lload_n (M := M_X12_in) dX12_in_1 rfl ?_
  refine x_lcmp (M := M_X12_in) dX12_in_2 ?_
  refine x_if_lt (M := M_X12_in) (tgt := 17) dX12_in_3 (by decide) (fun q => absurd ((bc_lt (i_i2l rfl) (by decide +kernel)).mp q) (by omega : ¬ (a0.toInt < 0))) (fun _ => ?_)
  refine x_lload_n (M := M_X12_in) dX12_in_6 rfl ?_
  refine x_lload (M := M_X12_in) dX12_in_7 rfl ?_
  refine x_lcmp (M := M_X12_in) dX12_in_9 ?_
  refine x_if_gt (M := M_X12_in) (tgt := 17) dX12_in_10 (by decide) (fun _ => ?_) (fun q => absurd ((bc_gt (i_i2l rfl) (by decide +kernel)).mpr (by omega : (2 < a0.toInt : Prop))) q)
  refine x_iconst (M := M_X12_in) dX12_in_17 ?_
  exact x_zret (M := M_X12_in) dX12_in_18 rfl (by decide) ⟨rfl, rfl⟩ (Nat.le_of_ble_eq_true rfl) (Nat.le_of_ble_eq_true rfl)
set_option maxRecDepth 10000 in
theorem q5811 {l : Launch} {E : EE} (hl : l.stackTraces = false) {h : HP} {a0 : Int32} {a1 : Int32} {a2 : Int32} {a3 : Int32} {a4 : Int32} {dg : Int32} (c0 : ¬ (a0.toInt < 0)) (c1 : 2 < a0.toInt) (o5802 : ob h 277 = some (.inr (15, (RB dg)))) : en_C l E M_X12_find 1 0 0 [.ref 277, .int a0, .int a1, .int a2, .int a3, .int a4] h (pF (some (.int (Int32.ofInt 0))) [277] h (fun h' => ob h' 277 = some (.inr (15, ((RB dg).set 0 (.int (Int32.ofInt 1))))) ∧ True)) := by
  refine en_mk m_X12_find rfl hl (Nat.le_of_ble_eq_true rfl) ?_
  refine x_aload_n (M := M_X12_find) dX12_find_0 rfl ?_
  refine x_iconst (M := M_X12_find) dX12_find_1 ?_
  refine y_put (M := M_X12_find) (ci := 15) (C := RX12) (T := TX12) (N := 135) (ty := tyX12) cl15 dX12_find_2 o5802 0 (by decide) t_2391 (Or.inl rfl) (Nat.le_of_ble_eq_true rfl) rfl (fun h5803 w5804 f5805 => ?_)
  refine x_iload_n (M := M_X12_find) dX12_find_5 rfl ?_
  refine x_i2l (M := M_X12_find) dX12_find_6 ?_
  refine x_lconst (M := M_X12_find) dX12_find_7 ?_
  refine x_ldc2 (M := M_X12_find) dX12_find_8 t_3091 ?_
  refine x_norm (M := M_X12_find) (st' := [.long (Int64.ofInt 2), .long (Int64.ofInt 0), .long (a0.toInt64)]) rfl (vj_cons (by decide +kernel : (2 : Int64) = (Int64.ofInt 2)) (vj_cons (by decide +kernel : (Int64.ofNat ((0 : Fin 2) : Nat)) = (Int64.ofInt 0)) rfl)) rfl rfl rfl ?_
  refine x_callSR (M := M_X12_find) (M' := M_X12_in) rfl rfl dX12_find_11 m_X12_in t_2818 t_2819 (q5806 hl c0 c1) rfl rfl (Nat.le_of_ble_eq_true rfl) (Nat.le_of_ble_eq_true rfl) (Nat.le_of_ble_eq_true rfl) (Nat.le_of_ble_eq_true rfl) ?_
  refine x_if_eq (M := M_X12_find) (tgt := 67) dX12_find_14 (by decide) (fun _ => ?_) (fun q => absurd q (by decide +kernel))
  refine x_iconst (M := M_X12_find) dX12_find_67 ?_
  refine x_istore (M := M_X12_find) dX12_find_68 (Nat.le_of_ble_eq_true rfl) rfl ?_
  refine x_aload_n (M := M_X12_find) dX12_find_70 rfl ?_
  refine x_iload (M := M_X12_find) dX12_find_71 rfl ?_
  refine x_if_ne (M := M_X12_find) (tgt := 80) dX12_find_73 (by decide) (fun q => absurd q (by decide +kernel)) (fun _ => ?_)
  refine x_iconst (M := M_X12_find) dX12_find_76 ?_
  refine x_goto (M := M_X12_find) (tgt := 81) dX12_find_77 (by decide) ?_
  refine x_iconst (M := M_X12_find) dX12_find_81 ?_
  refine y_callVR (M := M_X12_find) (M' := M_X12_fails) rfl rfl dX12_find_82 m_X12_fails t_2805 t_2807 s_157 (q22 hl w5804) rfl rfl w5804 rfl (Nat.le_of_ble_eq_true rfl) (Nat.le_of_ble_eq_true rfl) (Nat.le_of_ble_eq_true rfl) (Nat.le_of_ble_eq_true rfl) (fun h5807 f5808 w5809 => ?_)
  obtain ⟨o5810, -⟩ := w5809
  refine x_if_eq (M := M_X12_find) (tgt := 90) dX12_find_85 (by decide) (fun q => absurd q (by decide +kernel)) (fun _ => ?_)
  refine x_iconst (M := M_X12_find) dX12_find_88 ?_
  exact x_iret (M := M_X12_find) dX12_find_89 rfl ⟨rfl, (fr_tr f5808 (by decide) (fr_tr f5805 (by decide) fr_rf)), ⟨o5810, trivial⟩⟩ (Nat.le_of_ble_eq_true rfl) (Nat.le_of_ble_eq_true rfl)
set_option maxRecDepth 10000 in
theorem lc23_1 {l : Launch} {E : EE} (hl : l.stackTraces = false) (nm : String) {xs : Nat → Int32} (hx : E.2.2.2.2 0 = some (7, xs)) {h : HP} {a0 : Int32} {a1 : Int32} {a2 : Int32} {a3 : Int32} {a4 : Int32} {dg : Int32} (e2 : xs 2 = a0) (e3 : xs 3 = a1) (e4 : xs 4 = a2) (e5 : xs 5 = a3) (e6 : xs 6 = a4) (c0 : ¬ (a0.toInt < 0)) (c1 : 2 < a0.toInt) (o5798 : ob h 32 = some (.inr (14, [.ref 33, .ref 162, .ref 166, .int (0 : Int32), .int (0 : Int32), .int (0 : Int32), .ref 167, .ref 170, .ref 173, .ref 177, .ref 193, .ref 208, .ref 222, .ref 238, .ref 252, .ref 274, .ref 275, .ref 276, .int (0 : Int32)]))) (o5812 : ob h 277 = some (.inr (15, (RB dg)))) : XX l E (M_law nm) 1312 342628 8074320 (fun o _ => o = .inl (some (.int 1))) 1697 [some (.ref 0), some (.ref 32), some (.ref 277), some (.ref 359), some (.int (Int32.ofInt 1)), none, none, none] [] h 328 2463747 := by
  refine x_aload_n (M := (M_law nm)) dL_law_1697 rfl ?_
  refine x_aload_n (M := (M_law nm)) dL_law_1698 rfl ?_
  refine x_iload (M := (M_law nm)) dL_law_1699 rfl ?_
  refine x_iconst (M := (M_law nm)) dL_law_1701 ?_
  refine x_iadd (M := (M_law nm)) dL_law_1702 ?_
  refine x_sald (M := (M_law nm)) dL_law_1703 (by decide) hx (vp_inD (by decide +kernel)) ?_
  refine x_top (M := (M_law nm)) (y := a0) ((congrArg xs (by decide +kernel : ((Int32.ofInt 1) + (Int32.ofInt 1)).toNatClampNeg = 2)).trans e2) ?_
  refine x_aload_n (M := (M_law nm)) dL_law_1704 rfl ?_
  refine x_iload (M := (M_law nm)) dL_law_1705 rfl ?_
  refine x_iconst (M := (M_law nm)) dL_law_1707 ?_
  refine x_iadd (M := (M_law nm)) dL_law_1708 ?_
  refine x_sald (M := (M_law nm)) dL_law_1709 (by decide) hx (vp_inD (by decide +kernel)) ?_
  refine x_top (M := (M_law nm)) (y := a1) ((congrArg xs (by decide +kernel : ((Int32.ofInt 1) + (Int32.ofInt 2)).toNatClampNeg = 3)).trans e3) ?_
  refine x_aload_n (M := (M_law nm)) dL_law_1710 rfl ?_
  refine x_iload (M := (M_law nm)) dL_law_1711 rfl ?_
  refine x_iconst (M := (M_law nm)) dL_law_1713 ?_
  refine x_iadd (M := (M_law nm)) dL_law_1714 ?_
  refine x_sald (M := (M_law nm)) dL_law_1715 (by decide) hx (vp_inD (by decide +kernel)) ?_
  refine x_top (M := (M_law nm)) (y := a2) ((congrArg xs (by decide +kernel : ((Int32.ofInt 1) + (Int32.ofInt 3)).toNatClampNeg = 4)).trans e4) ?_
  refine x_aload_n (M := (M_law nm)) dL_law_1716 rfl ?_
  refine x_iload (M := (M_law nm)) dL_law_1717 rfl ?_
  refine x_iconst (M := (M_law nm)) dL_law_1719 ?_
  refine x_iadd (M := (M_law nm)) dL_law_1720 ?_
  refine x_sald (M := (M_law nm)) dL_law_1721 (by decide) hx (vp_inD (by decide +kernel)) ?_
  refine x_top (M := (M_law nm)) (y := a3) ((congrArg xs (by decide +kernel : ((Int32.ofInt 1) + (Int32.ofInt 4)).toNatClampNeg = 5)).trans e5) ?_
  refine x_aload_n (M := (M_law nm)) dL_law_1722 rfl ?_
  refine x_iload (M := (M_law nm)) dL_law_1723 rfl ?_
  refine x_iconst (M := (M_law nm)) dL_law_1725 ?_
  refine x_iadd (M := (M_law nm)) dL_law_1726 ?_
  refine x_sald (M := (M_law nm)) dL_law_1727 (by decide) hx (vp_inD (by decide +kernel)) ?_
  refine x_top (M := (M_law nm)) (y := a4) ((congrArg xs (by decide +kernel : ((Int32.ofInt 1) + (Int32.ofInt 5)).toNatClampNeg = 6)).trans e6) ?_
  refine x_aload_n (M := (M_law nm)) dL_law_1728 rfl ?_
  refine y_callSW (M := (M_law nm)) (M' := M_L_find) rfl rfl dL_law_1729 m_L_find t_2242 t_2243 (q5797 hl c0 c1 o5798) rfl rfl (Nat.le_of_ble_eq_true rfl) (Nat.le_of_ble_eq_true rfl) (Nat.le_of_ble_eq_true rfl) (Nat.le_of_ble_eq_true rfl) (fun h5799 f5800 w5801 => ?_)
  refine x_istore (M := (M_law nm)) dL_law_1732 (Nat.le_of_ble_eq_true rfl) rfl ?_
  refine x_aload_n (M := (M_law nm)) dL_law_1734 rfl ?_
  refine x_aload_n (M := (M_law nm)) dL_law_1735 rfl ?_
  refine x_iload (M := (M_law nm)) dL_law_1736 rfl ?_
  refine x_iconst (M := (M_law nm)) dL_law_1738 ?_
  refine x_iadd (M := (M_law nm)) dL_law_1739 ?_
  refine x_sald (M := (M_law nm)) dL_law_1740 (by decide) hx (vp_inD (by decide +kernel)) ?_
  refine x_top (M := (M_law nm)) (y := a0) ((congrArg xs (by decide +kernel : ((Int32.ofInt 1) + (Int32.ofInt 1)).toNatClampNeg = 2)).trans e2) ?_
  refine x_aload_n (M := (M_law nm)) dL_law_1741 rfl ?_
  refine x_iload (M := (M_law nm)) dL_law_1742 rfl ?_
  refine x_iconst (M := (M_law nm)) dL_law_1744 ?_
  refine x_iadd (M := (M_law nm)) dL_law_1745 ?_
  refine x_sald (M := (M_law nm)) dL_law_1746 (by decide) hx (vp_inD (by decide +kernel)) ?_
  refine x_top (M := (M_law nm)) (y := a1) ((congrArg xs (by decide +kernel : ((Int32.ofInt 1) + (Int32.ofInt 2)).toNatClampNeg = 3)).trans e3) ?_
  refine x_aload_n (M := (M_law nm)) dL_law_1747 rfl ?_
  refine x_iload (M := (M_law nm)) dL_law_1748 rfl ?_
  refine x_iconst (M := (M_law nm)) dL_law_1750 ?_
  refine x_iadd (M := (M_law nm)) dL_law_1751 ?_
  refine x_sald (M := (M_law nm)) dL_law_1752 (by decide) hx (vp_inD (by decide +kernel)) ?_
  refine x_top (M := (M_law nm)) (y := a2) ((congrArg xs (by decide +kernel : ((Int32.ofInt 1) + (Int32.ofInt 3)).toNatClampNeg = 4)).trans e4) ?_
  refine x_aload_n (M := (M_law nm)) dL_law_1753 rfl ?_
  refine x_iload (M := (M_law nm)) dL_law_1754 rfl ?_
  refine x_iconst (M := (M_law nm)) dL_law_1756 ?_
  refine x_iadd (M := (M_law nm)) dL_law_1757 ?_
  refine x_sald (M := (M_law nm)) dL_law_1758 (by decide) hx (vp_inD (by decide +kernel)) ?_
  refine x_top (M := (M_law nm)) (y := a3) ((congrArg xs (by decide +kernel : ((Int32.ofInt 1) + (Int32.ofInt 4)).toNatClampNeg = 5)).trans e5) ?_
  refine x_aload_n (M := (M_law nm)) dL_law_1759 rfl ?_
  refine x_iload (M := (M_law nm)) dL_law_1760 rfl ?_
  refine x_iconst (M := (M_law nm)) dL_law_1762 ?_
  refine x_iadd (M := (M_law nm)) dL_law_1763 ?_
  refine x_sald (M := (M_law nm)) dL_law_1764 (by decide) hx (vp_inD (by decide +kernel)) ?_
  refine x_top (M := (M_law nm)) (y := a4) ((congrArg xs (by decide +kernel : ((Int32.ofInt 1) + (Int32.ofInt 5)).toNatClampNeg = 6)).trans e6) ?_
  have o5813 := (f5800 277 _ (by decide) o5812)
  refine y_callVR (M := (M_law nm)) (M' := M_X12_find) rfl rfl dL_law_1765 m_X12_find t_3129 t_3130 t_3131 (q5811 hl c0 c1 o5813) rfl rfl o5813 rfl (Nat.le_of_ble_eq_true rfl) (Nat.le_of_ble_eq_true rfl) (Nat.le_of_ble_eq_true rfl) (Nat.le_of_ble_eq_true rfl) (fun h5814 f5815 w5816 => ?_)
  obtain ⟨o5817, -⟩ := w5816
  refine x_istore (M := (M_law nm)) dL_law_1768 (Nat.le_of_ble_eq_true rfl) rfl ?_
  refine x_aload_n (M := (M_law nm)) dL_law_1770 rfl ?_
  refine x_callVR (M := (M_law nm)) (M' := M_X12_thrown) rfl rfl dL_law_1771 m_X12_thrown t_2797 t_2798 t_2799 (q35 hl o5817) rfl rfl o5817 rfl (Nat.le_of_ble_eq_true rfl) (Nat.le_of_ble_eq_true rfl) (Nat.le_of_ble_eq_true rfl) (Nat.le_of_ble_eq_true rfl) ?_
  refine x_iload (M := (M_law nm)) dL_law_1774 rfl ?_
  refine x_icmp_eq (M := (M_law nm)) (tgt := 1781) dL_law_1776 (by decide) (fun _ => ?_) (fun q => absurd q (by decide +kernel))
  refine x_iload (M := (M_law nm)) dL_law_1781 rfl ?_
  refine x_if_ne (M := (M_law nm)) (tgt := 1798) dL_law_1783 (by decide) (fun _ => ?_) (fun q => absurd q (by decide +kernel))
  refine x_goto (M := (M_law nm)) (tgt := 2449) dL_law_1798 (by decide) ?_
  refine x_iinc (M := (M_law nm)) dL_law_2449 rfl (Nat.le_of_ble_eq_true rfl) rfl ?_
  refine x_lvs (M := (M_law nm)) (lv' := [some (.ref 0), some (.ref 32), some (.ref 277), some (.ref 359), some (.int (Int32.ofInt 7)), some (.int (Int32.ofInt 1)), some (.int (Int32.ofInt 0)), none]) (by rw [(by decide +kernel : (Int32.ofInt 1) + Int32.ofInt 6 = (Int32.ofInt 7))] <;> rfl) ?_
  refine x_goto (M := (M_law nm)) (tgt := 33) dL_law_2452 (by decide) ?_
  refine x_iload (M := (M_law nm)) dL_law_33 rfl ?_
  refine x_aload_n (M := (M_law nm)) dL_law_35 rfl ?_
  refine x_slen (M := (M_law nm)) dL_law_36 (by decide) hx ?_
  refine x_bipush (M := (M_law nm)) dL_law_37 ?_
  refine x_isub (M := (M_law nm)) dL_law_39 ?_
  refine x_icmp_gt (M := (M_law nm)) (tgt := 2455) dL_law_40 (by decide) (fun _ => ?_) (fun q => absurd q (by decide +kernel))
  refine x_iconst (M := (M_law nm)) dL_law_2455 ?_
  exact x_zret (M := (M_law nm)) dL_law_2456 rfl (by decide) rfl (Nat.le_of_ble_eq_true rfl) (Nat.le_of_ble_eq_true rfl)
set_option maxRecDepth 10000 in
theorem q5819 {l : Launch} {E : EE} (hl : l.stackTraces = false) {h : HP} {a0 : Int32} {a1 : Int32} {a2 : Int32} {a3 : Int32} {a4 : Int32} (c0 : ¬ (a0.toInt < 0)) (c1 : ¬ (2 < a0.toInt)) (c2 : a1.toInt < (-1000000000)) : en_C l E M_X11_find 6 1 6 [.ref 32, .int a0, .int a1, .int a2, .int a3, .int a4] h (pT "java/lang/IllegalArgumentException" [] h (fun _ => True)) := by
  refine en_mk m_X11_find rfl hl (Nat.le_of_ble_eq_true rfl) ?_
  refine x_iload_n (M := M_X11_find) dX11_find_0 rfl ?_
  refine x_if_lt (M := M_X11_find) (tgt := 51) dX11_find_1 (by decide) (fun q => absurd ((bi_lt rfl (by decide +kernel)).mp q) (by omega : ¬ (a0.toInt < 0))) (fun _ => ?_)
  refine x_iload_n (M := M_X11_find) dX11_find_4 rfl ?_
  refine x_iconst (M := M_X11_find) dX11_find_5 ?_
  refine x_icmp_gt (M := M_X11_find) (tgt := 51) dX11_find_6 (by decide) (fun q => absurd ((bi_lt (by decide +kernel) rfl).mp q) (by omega : ¬ (2 < a0.toInt))) (fun _ => ?_)
  refine x_iload_n (M := M_X11_find) dX11_find_9 rfl ?_
  refine x_ldcw (M := M_X11_find) dX11_find_10 t_2249 ?_
  refine x_icmp_lt (M := M_X11_find) (tgt := 51) dX11_find_13 (by decide) (fun _ => ?_) (fun q => absurd ((bi_lt rfl (by decide +kernel)).mpr (by omega : (a1.toInt < (-1000000000) : Prop))) q)
  exact x_throw (M := M_X11_find) (names := en_nm) rfl dX11_find_51 dX11_find_54 dX11_find_55 dX11_find_58 (by decide +kernel) en_nm_ok (Or.inl t_721) (Or.inl t_19) (at_X11_IllegalArgumentException_118) (Nat.le_of_ble_eq_true rfl) (Nat.le_of_ble_eq_true rfl) (Nat.le_of_ble_eq_true rfl) (Nat.le_of_ble_eq_true rfl) (fun n9 => ⟨rfl, (fr_tr (fr_app (List.replicate n9 none)) (fun _ h => nomatch h) fr_rf), trivial⟩)
set_option maxRecDepth 10000 in
theorem q5824 {l : Launch} {E : EE} (hl : l.stackTraces = false) {h : HP} {a0 : Int32} {a1 : Int32} {a2 : Int32} {a3 : Int32} {a4 : Int32} (c0 : ¬ (a0.toInt < 0)) (c1 : ¬ (2 < a0.toInt)) (c2 : a1.toInt < (-1000000000)) (o5820 : ob h 32 = some (.inr (14, [.ref 33, .ref 162, .ref 166, .int (0 : Int32), .int (0 : Int32), .int (0 : Int32), .ref 167, .ref 170, .ref 173, .ref 177, .ref 193, .ref 208, .ref 222, .ref 238, .ref 252, .ref 274, .ref 275, .ref 276, .int (0 : Int32)]))) : en_C l E M_L_find 7 1 6 [.ref 32, .int a0, .int a1, .int a2, .int a3, .int a4, .ref 359] h (pF (some (.int (Int32.ofInt 1))) [] h (fun _ => True)) := by
  refine en_mkW m_L_find rfl hl (Nat.le_of_ble_eq_true rfl) ?_
  refine x_aload (M := M_L_find) dL_find_0 rfl ?_
  refine x_iconst (M := M_L_find) dL_find_2 ?_
  refine x_aload_n (M := M_L_find) dL_find_3 rfl ?_
  refine x_iload_n (M := M_L_find) dL_find_4 rfl ?_
  refine x_iload_n (M := M_L_find) dL_find_5 rfl ?_
  refine x_iload_n (M := M_L_find) dL_find_6 rfl ?_
  refine x_iload (M := M_L_find) dL_find_7 rfl ?_
  refine x_iload (M := M_L_find) dL_find_9 rfl ?_
  refine y_callVHX (M := M_L_find) (M' := M_X11_find) (i9 := 7) (nx := 21) rfl dL_find_11 m_X11_find t_2245 t_2246 t_2247 o5820 rfl (q5819 hl c0 c1 c2) rfl rfl (Nat.le_of_ble_eq_true rfl) (Nat.le_of_ble_eq_true rfl) (Nat.le_of_ble_eq_true rfl) (Nat.le_of_ble_eq_true rfl) (en_hdm (k0 := 7) [] [] rfl (fun _ h => nomatch h) (by decide +kernel) (by decide) t_716 n_723 dL_find_19) (by decide) rfl (fun h5821 f5822 w5823 => ?_)
  refine x_iconst (M := M_L_find) dL_find_21 ?_
  exact x_iret (M := M_L_find) dL_find_22 rfl ⟨rfl, (fr_tr f5822 (fun _ h => nomatch h) fr_rf), trivial⟩ (Nat.le_of_ble_eq_true rfl) (Nat.le_of_ble_eq_true rfl)
set_option maxRecDepth 10000 in
theorem q5833 {l : Launch} {E : EE} (hl : l.stackTraces = false) {h : HP} {a0 : Int32} (c0 : ¬ (a0.toInt < 0)) (c1 : ¬ (2 < a0.toInt)) : en_C l E M_X12_in 0 0 0 [.long (a0.toInt64), .long (Int64.ofInt 0), .long (Int64.ofInt 2)] h (pR (some (.int (Int32.ofInt 1))) h) := by
  refine en_mk m_X12_in rfl hl (Nat.le_of_ble_eq_true rfl) ?_
  refine x_lload_n (M := M_X12_in) dX12_in_0 rfl ?_
  refine x_lload_n (M := M_X12_in) dX12_in_1 rfl ?_
  refine x_lcmp (M := M_X12_in) dX12_in_2 ?_
  refine x_if_lt (M := M_X12_in) (tgt := 17) dX12_in_3 (by decide) (fun q => absurd ((bc_lt (i_i2l rfl) (by decide +kernel)).mp q) (by omega : ¬ (a0.toInt < 0))) (fun _ => ?_)
  refine x_lload_n (M := M_X12_in) dX12_in_6 rfl ?_
  refine x_lload (M := M_X12_in) dX12_in_7 rfl ?_
  refine x_lcmp (M := M_X12_in) dX12_in_9 ?_
  refine x_if_gt (M := M_X12_in) (tgt := 17) dX12_in_10 (by decide) (fun q => absurd ((bc_gt (i_i2l rfl) (by decide +kernel)).mp q) (by omega : ¬ (2 < a0.toInt))) (fun _ => ?_)
  refine x_iconst (M := M_X12_in) dX12_in_13 ?_
  refine x_goto (M := M_X12_in) (tgt := 18) dX12_in_14 (by decide) ?_
  exact x_zret (M := M_X12_in) dX12_in_18 rfl (by decide) ⟨rfl, rfl⟩ (Nat.le_of_ble_eq_true rfl) (Nat.le_of_ble_eq_true rfl)
set_option maxRecDepth 10000 in
theorem q5838 {l : Launch} {E : EE} (hl : l.stackTraces = false) {h : HP} {a0 : Int32} {a1 : Int32} {a2 : Int32} {a3 : Int32} {a4 : Int32} {dg : Int32} (c0 : ¬ (a0.toInt < 0)) (c1 : ¬ (2 < a0.toInt)) (c2 : a1.toInt < (-1000000000)) (o5829 : ob h 277 = some (.inr (15, (RB dg)))) : en_C l E M_X12_find 2 0 0 [.ref 277, .int a0, .int a1, .int a2, .int a3, .int a4] h (pF (some (.int (Int32.ofInt 0))) [277] h (fun h' => ob h' 277 = some (.inr (15, ((RB dg).set 0 (.int (Int32.ofInt 1))))) ∧ True)) := by
  refine en_mk m_X12_find rfl hl (Nat.le_of_ble_eq_true rfl) ?_
  refine x_aload_n (M := M_X12_find) dX12_find_0 rfl ?_
  refine x_iconst (M := M_X12_find) dX12_find_1 ?_
  refine y_put (M := M_X12_find) (ci := 15) (C := RX12) (T := TX12) (N := 135) (ty := tyX12) cl15 dX12_find_2 o5829 0 (by decide) t_2391 (Or.inl rfl) (Nat.le_of_ble_eq_true rfl) rfl (fun h5830 w5831 f5832 => ?_)
  refine x_iload_n (M := M_X12_find) dX12_find_5 rfl ?_
  refine x_i2l (M := M_X12_find) dX12_find_6 ?_
  refine x_lconst (M := M_X12_find) dX12_find_7 ?_
  refine x_ldc2 (M := M_X12_find) dX12_find_8 t_3091 ?_
  refine x_norm (M := M_X12_find) (st' := [.long (Int64.ofInt 2), .long (Int64.ofInt 0), .long (a0.toInt64)]) rfl (vj_cons (by decide +kernel : (2 : Int64) = (Int64.ofInt 2)) (vj_cons (by decide +kernel : (Int64.ofNat ((0 : Fin 2) : Nat)) = (Int64.ofInt 0)) rfl)) rfl rfl rfl ?_
  refine x_callSR (M := M_X12_find) (M' := M_X12_in) rfl rfl dX12_find_11 m_X12_in t_2818 t_2819 (q5833 hl c0 c1) rfl rfl (Nat.le_of_ble_eq_true rfl) (Nat.le_of_ble_eq_true rfl) (Nat.le_of_ble_eq_true rfl) (Nat.le_of_ble_eq_true rfl) ?_
  refine x_if_eq (M := M_X12_find) (tgt := 67) dX12_find_14 (by decide) (fun q => absurd q (by decide +kernel)) (fun _ => ?_)
  refine x_iload_n (M := M_X12_find) dX12_find_17 rfl ?_
  refine x_i2l (M := M_X12_find) dX12_find_18 ?_
  refine x_callSR (M := M_X12_find) (M' := M_X12_isFar) rfl rfl dX12_find_19 m_X12_isFar t_3133 t_3134 (q5413 hl c2) rfl rfl (Nat.le_of_ble_eq_true rfl) (Nat.le_of_ble_eq_true rfl) (Nat.le_of_ble_eq_true rfl) (Nat.le_of_ble_eq_true rfl) ?_
  refine x_if_eq (M := M_X12_find) (tgt := 67) dX12_find_22 (by decide) (fun _ => ?_) (fun q => absurd q (by decide +kernel))
  refine x_iconst (M := M_X12_find) dX12_find_67 ?_
  refine x_istore (M := M_X12_find) dX12_find_68 (Nat.le_of_ble_eq_true rfl) rfl ?_
  refine x_aload_n (M := M_X12_find) dX12_find_70 rfl ?_
  refine x_iload (M := M_X12_find) dX12_find_71 rfl ?_
  refine x_if_ne (M := M_X12_find) (tgt := 80) dX12_find_73 (by decide) (fun q => absurd q (by decide +kernel)) (fun _ => ?_)
  refine x_iconst (M := M_X12_find) dX12_find_76 ?_
  refine x_goto (M := M_X12_find) (tgt := 81) dX12_find_77 (by decide) ?_
  refine x_iconst (M := M_X12_find) dX12_find_81 ?_
  refine y_callVR (M := M_X12_find) (M' := M_X12_fails) rfl rfl dX12_find_82 m_X12_fails t_2805 t_2807 s_157 (q22 hl w5831) rfl rfl w5831 rfl (Nat.le_of_ble_eq_true rfl) (Nat.le_of_ble_eq_true rfl) (Nat.le_of_ble_eq_true rfl) (Nat.le_of_ble_eq_true rfl) (fun h5834 f5835 w5836 => ?_)
  obtain ⟨o5837, -⟩ := w5836
  refine x_if_eq (M := M_X12_find) (tgt := 90) dX12_find_85 (by decide) (fun q => absurd q (by decide +kernel)) (fun _ => ?_)
  refine x_iconst (M := M_X12_find) dX12_find_88 ?_
  exact x_iret (M := M_X12_find) dX12_find_89 rfl ⟨rfl, (fr_tr f5835 (by decide) (fr_tr f5832 (by decide) fr_rf)), ⟨o5837, trivial⟩⟩ (Nat.le_of_ble_eq_true rfl) (Nat.le_of_ble_eq_true rfl)
set_option maxRecDepth 10000 in
theorem lc23_2 {l : Launch} {E : EE} (hl : l.stackTraces = false) (nm : String) {xs : Nat → Int32} (hx : E.2.2.2.2 0 = some (7, xs)) {h : HP} {a0 : Int32} {a1 : Int32} {a2 : Int32} {a3 : Int32} {a4 : Int32} {dg : Int32} (e2 : xs 2 = a0) (e3 : xs 3 = a1) (e4 : xs 4 = a2) (e5 : xs 5 = a3) (e6 : xs 6 = a4) (c0 : ¬ (a0.toInt < 0)) (c1 : ¬ (2 < a0.toInt)) (c2 : a1.toInt < (-1000000000)) (o5825 : ob h 32 = some (.inr (14, [.ref 33, .ref 162, .ref 166, .int (0 : Int32), .int (0 : Int32), .int (0 : Int32), .ref 167, .ref 170, .ref 173, .ref 177, .ref 193, .ref 208, .ref 222, .ref 238, .ref 252, .ref 274, .ref 275, .ref 276, .int (0 : Int32)]))) (o5839 : ob h 277 = some (.inr (15, (RB dg)))) : XX l E (M_law nm) 1312 342628 8074320 (fun o _ => o = .inl (some (.int 1))) 1697 [some (.ref 0), some (.ref 32), some (.ref 277), some (.ref 359), some (.int (Int32.ofInt 1)), none, none, none] [] h 328 2463747 := by
  refine x_aload_n (M := (M_law nm)) dL_law_1697 rfl ?_
  refine x_aload_n (M := (M_law nm)) dL_law_1698 rfl ?_
  refine x_iload (M := (M_law nm)) dL_law_1699 rfl ?_
  refine x_iconst (M := (M_law nm)) dL_law_1701 ?_
  refine x_iadd (M := (M_law nm)) dL_law_1702 ?_
  refine x_sald (M := (M_law nm)) dL_law_1703 (by decide) hx (vp_inD (by decide +kernel)) ?_
  refine x_top (M := (M_law nm)) (y := a0) ((congrArg xs (by decide +kernel : ((Int32.ofInt 1) + (Int32.ofInt 1)).toNatClampNeg = 2)).trans e2) ?_
  refine x_aload_n (M := (M_law nm)) dL_law_1704 rfl ?_
  refine x_iload (M := (M_law nm)) dL_law_1705 rfl ?_
  refine x_iconst (M := (M_law nm)) dL_law_1707 ?_
  refine x_iadd (M := (M_law nm)) dL_law_1708 ?_
  refine x_sald (M := (M_law nm)) dL_law_1709 (by decide) hx (vp_inD (by decide +kernel)) ?_
  refine x_top (M := (M_law nm)) (y := a1) ((congrArg xs (by decide +kernel : ((Int32.ofInt 1) + (Int32.ofInt 2)).toNatClampNeg = 3)).trans e3) ?_
  refine x_aload_n (M := (M_law nm)) dL_law_1710 rfl ?_
  refine x_iload (M := (M_law nm)) dL_law_1711 rfl ?_
  refine x_iconst (M := (M_law nm)) dL_law_1713 ?_
  refine x_iadd (M := (M_law nm)) dL_law_1714 ?_
  refine x_sald (M := (M_law nm)) dL_law_1715 (by decide) hx (vp_inD (by decide +kernel)) ?_
  refine x_top (M := (M_law nm)) (y := a2) ((congrArg xs (by decide +kernel : ((Int32.ofInt 1) + (Int32.ofInt 3)).toNatClampNeg = 4)).trans e4) ?_
  refine x_aload_n (M := (M_law nm)) dL_law_1716 rfl ?_
  refine x_iload (M := (M_law nm)) dL_law_1717 rfl ?_
  refine x_iconst (M := (M_law nm)) dL_law_1719 ?_
  refine x_iadd (M := (M_law nm)) dL_law_1720 ?_
  refine x_sald (M := (M_law nm)) dL_law_1721 (by decide) hx (vp_inD (by decide +kernel)) ?_
  refine x_top (M := (M_law nm)) (y := a3) ((congrArg xs (by decide +kernel : ((Int32.ofInt 1) + (Int32.ofInt 4)).toNatClampNeg = 5)).trans e5) ?_
  refine x_aload_n (M := (M_law nm)) dL_law_1722 rfl ?_
  refine x_iload (M := (M_law nm)) dL_law_1723 rfl ?_
  refine x_iconst (M := (M_law nm)) dL_law_1725 ?_
  refine x_iadd (M := (M_law nm)) dL_law_1726 ?_
  refine x_sald (M := (M_law nm)) dL_law_1727 (by decide) hx (vp_inD (by decide +kernel)) ?_
  refine x_top (M := (M_law nm)) (y := a4) ((congrArg xs (by decide +kernel : ((Int32.ofInt 1) + (Int32.ofInt 5)).toNatClampNeg = 6)).trans e6) ?_
  refine x_aload_n (M := (M_law nm)) dL_law_1728 rfl ?_
  refine y_callSW (M := (M_law nm)) (M' := M_L_find) rfl rfl dL_law_1729 m_L_find t_2242 t_2243 (q5824 hl c0 c1 c2 o5825) rfl rfl (Nat.le_of_ble_eq_true rfl) (Nat.le_of_ble_eq_true rfl) (Nat.le_of_ble_eq_true rfl) (Nat.le_of_ble_eq_true rfl) (fun h5826 f5827 w5828 => ?_)
  refine x_istore (M := (M_law nm)) dL_law_1732 (Nat.le_of_ble_eq_true rfl) rfl ?_
  refine x_aload_n (M := (M_law nm)) dL_law_1734 rfl ?_
  refine x_aload_n (M := (M_law nm)) dL_law_1735 rfl ?_
  refine x_iload (M := (M_law nm)) dL_law_1736 rfl ?_
  refine x_iconst (M := (M_law nm)) dL_law_1738 ?_
  refine x_iadd (M := (M_law nm)) dL_law_1739 ?_
  refine x_sald (M := (M_law nm)) dL_law_1740 (by decide) hx (vp_inD (by decide +kernel)) ?_
  refine x_top (M := (M_law nm)) (y := a0) ((congrArg xs (by decide +kernel : ((Int32.ofInt 1) + (Int32.ofInt 1)).toNatClampNeg = 2)).trans e2) ?_
  refine x_aload_n (M := (M_law nm)) dL_law_1741 rfl ?_
  refine x_iload (M := (M_law nm)) dL_law_1742 rfl ?_
  refine x_iconst (M := (M_law nm)) dL_law_1744 ?_
  refine x_iadd (M := (M_law nm)) dL_law_1745 ?_
  refine x_sald (M := (M_law nm)) dL_law_1746 (by decide) hx (vp_inD (by decide +kernel)) ?_
  refine x_top (M := (M_law nm)) (y := a1) ((congrArg xs (by decide +kernel : ((Int32.ofInt 1) + (Int32.ofInt 2)).toNatClampNeg = 3)).trans e3) ?_
  refine x_aload_n (M := (M_law nm)) dL_law_1747 rfl ?_
  refine x_iload (M := (M_law nm)) dL_law_1748 rfl ?_
  refine x_iconst (M := (M_law nm)) dL_law_1750 ?_
  refine x_iadd (M := (M_law nm)) dL_law_1751 ?_
  refine x_sald (M := (M_law nm)) dL_law_1752 (by decide) hx (vp_inD (by decide +kernel)) ?_
  refine x_top (M := (M_law nm)) (y := a2) ((congrArg xs (by decide +kernel : ((Int32.ofInt 1) + (Int32.ofInt 3)).toNatClampNeg = 4)).trans e4) ?_
  refine x_aload_n (M := (M_law nm)) dL_law_1753 rfl ?_
  refine x_iload (M := (M_law nm)) dL_law_1754 rfl ?_
  refine x_iconst (M := (M_law nm)) dL_law_1756 ?_
  refine x_iadd (M := (M_law nm)) dL_law_1757 ?_
  refine x_sald (M := (M_law nm)) dL_law_1758 (by decide) hx (vp_inD (by decide +kernel)) ?_
  refine x_top (M := (M_law nm)) (y := a3) ((congrArg xs (by decide +kernel : ((Int32.ofInt 1) + (Int32.ofInt 4)).toNatClampNeg = 5)).trans e5) ?_
  refine x_aload_n (M := (M_law nm)) dL_law_1759 rfl ?_
  refine x_iload (M := (M_law nm)) dL_law_1760 rfl ?_
  refine x_iconst (M := (M_law nm)) dL_law_1762 ?_
  refine x_iadd (M := (M_law nm)) dL_law_1763 ?_
  refine x_sald (M := (M_law nm)) dL_law_1764 (by decide) hx (vp_inD (by decide +kernel)) ?_
  refine x_top (M := (M_law nm)) (y := a4) ((congrArg xs (by decide +kernel : ((Int32.ofInt 1) + (Int32.ofInt 5)).toNatClampNeg = 6)).trans e6) ?_
  have o5840 := (f5827 277 _ (by decide) o5839)
  refine y_callVR (M := (M_law nm)) (M' := M_X12_find) rfl rfl dL_law_1765 m_X12_find t_3129 t_3130 t_3131 (q5838 hl c0 c1 c2 o5840) rfl rfl o5840 rfl (Nat.le_of_ble_eq_true rfl) (Nat.le_of_ble_eq_true rfl) (Nat.le_of_ble_eq_true rfl) (Nat.le_of_ble_eq_true rfl) (fun h5841 f5842 w5843 => ?_)
  obtain ⟨o5844, -⟩ := w5843
  refine x_istore (M := (M_law nm)) dL_law_1768 (Nat.le_of_ble_eq_true rfl) rfl ?_
  refine x_aload_n (M := (M_law nm)) dL_law_1770 rfl ?_
  refine x_callVR (M := (M_law nm)) (M' := M_X12_thrown) rfl rfl dL_law_1771 m_X12_thrown t_2797 t_2798 t_2799 (q35 hl o5844) rfl rfl o5844 rfl (Nat.le_of_ble_eq_true rfl) (Nat.le_of_ble_eq_true rfl) (Nat.le_of_ble_eq_true rfl) (Nat.le_of_ble_eq_true rfl) ?_
  refine x_iload (M := (M_law nm)) dL_law_1774 rfl ?_
  refine x_icmp_eq (M := (M_law nm)) (tgt := 1781) dL_law_1776 (by decide) (fun _ => ?_) (fun q => absurd q (by decide +kernel))
  refine x_iload (M := (M_law nm)) dL_law_1781 rfl ?_
  refine x_if_ne (M := (M_law nm)) (tgt := 1798) dL_law_1783 (by decide) (fun _ => ?_) (fun q => absurd q (by decide +kernel))
  refine x_goto (M := (M_law nm)) (tgt := 2449) dL_law_1798 (by decide) ?_
  refine x_iinc (M := (M_law nm)) dL_law_2449 rfl (Nat.le_of_ble_eq_true rfl) rfl ?_
  refine x_lvs (M := (M_law nm)) (lv' := [some (.ref 0), some (.ref 32), some (.ref 277), some (.ref 359), some (.int (Int32.ofInt 7)), some (.int (Int32.ofInt 1)), some (.int (Int32.ofInt 0)), none]) (by rw [(by decide +kernel : (Int32.ofInt 1) + Int32.ofInt 6 = (Int32.ofInt 7))] <;> rfl) ?_
  refine x_goto (M := (M_law nm)) (tgt := 33) dL_law_2452 (by decide) ?_
  refine x_iload (M := (M_law nm)) dL_law_33 rfl ?_
  refine x_aload_n (M := (M_law nm)) dL_law_35 rfl ?_
  refine x_slen (M := (M_law nm)) dL_law_36 (by decide) hx ?_
  refine x_bipush (M := (M_law nm)) dL_law_37 ?_
  refine x_isub (M := (M_law nm)) dL_law_39 ?_
  refine x_icmp_gt (M := (M_law nm)) (tgt := 2455) dL_law_40 (by decide) (fun _ => ?_) (fun q => absurd q (by decide +kernel))
  refine x_iconst (M := (M_law nm)) dL_law_2455 ?_
  exact x_zret (M := (M_law nm)) dL_law_2456 rfl (by decide) rfl (Nat.le_of_ble_eq_true rfl) (Nat.le_of_ble_eq_true rfl)
set_option maxRecDepth 10000 in
theorem q5846 {l : Launch} {E : EE} (hl : l.stackTraces = false) {h : HP} {a0 : Int32} {a1 : Int32} {a2 : Int32} {a3 : Int32} {a4 : Int32} (c0 : ¬ (a0.toInt < 0)) (c1 : ¬ (2 < a0.toInt)) (c2 : ¬ (a1.toInt < (-1000000000))) (c3 : a2.toInt < (-1000000000)) : en_C l E M_X11_find 6 1 6 [.ref 32, .int a0, .int a1, .int a2, .int a3, .int a4] h (pT "java/lang/IllegalArgumentException" [] h (fun _ => True)) := by
  refine en_mk m_X11_find rfl hl (Nat.le_of_ble_eq_true rfl) ?_
  refine x_iload_n (M := M_X11_find) dX11_find_0 rfl ?_
  refine x_if_lt (M := M_X11_find) (tgt := 51) dX11_find_1 (by decide) (fun q => absurd ((bi_lt rfl (by decide +kernel)).mp q) (by omega : ¬ (a0.toInt < 0))) (fun _ => ?_)
  refine x_iload_n (M := M_X11_find) dX11_find_4 rfl ?_
  refine x_iconst (M := M_X11_find) dX11_find_5 ?_
  refine x_icmp_gt (M := M_X11_find) (tgt := 51) dX11_find_6 (by decide) (fun q => absurd ((bi_lt (by decide +kernel) rfl).mp q) (by omega : ¬ (2 < a0.toInt))) (fun _ => ?_)
  refine x_iload_n (M := M_X11_find) dX11_find_9 rfl ?_
  refine x_ldcw (M := M_X11_find) dX11_find_10 t_2249 ?_
  refine x_icmp_lt (M := M_X11_find) (tgt := 51) dX11_find_13 (by decide) (fun q => absurd ((bi_lt rfl (by decide +kernel)).mp q) (by omega : ¬ (a1.toInt < (-1000000000)))) (fun _ => ?_)
  refine x_iload_n (M := M_X11_find) dX11_find_16 rfl ?_
  refine x_ldcw (M := M_X11_find) dX11_find_17 t_2249 ?_
  refine x_icmp_lt (M := M_X11_find) (tgt := 51) dX11_find_20 (by decide) (fun _ => ?_) (fun q => absurd ((bi_lt rfl (by decide +kernel)).mpr (by omega : (a2.toInt < (-1000000000) : Prop))) q)
  exact x_throw (M := M_X11_find) (names := en_nm) rfl dX11_find_51 dX11_find_54 dX11_find_55 dX11_find_58 (by decide +kernel) en_nm_ok (Or.inl t_721) (Or.inl t_19) (at_X11_IllegalArgumentException_118) (Nat.le_of_ble_eq_true rfl) (Nat.le_of_ble_eq_true rfl) (Nat.le_of_ble_eq_true rfl) (Nat.le_of_ble_eq_true rfl) (fun n9 => ⟨rfl, (fr_tr (fr_app (List.replicate n9 none)) (fun _ h => nomatch h) fr_rf), trivial⟩)
set_option maxRecDepth 10000 in
theorem q5851 {l : Launch} {E : EE} (hl : l.stackTraces = false) {h : HP} {a0 : Int32} {a1 : Int32} {a2 : Int32} {a3 : Int32} {a4 : Int32} (c0 : ¬ (a0.toInt < 0)) (c1 : ¬ (2 < a0.toInt)) (c2 : ¬ (a1.toInt < (-1000000000))) (c3 : a2.toInt < (-1000000000)) (o5847 : ob h 32 = some (.inr (14, [.ref 33, .ref 162, .ref 166, .int (0 : Int32), .int (0 : Int32), .int (0 : Int32), .ref 167, .ref 170, .ref 173, .ref 177, .ref 193, .ref 208, .ref 222, .ref 238, .ref 252, .ref 274, .ref 275, .ref 276, .int (0 : Int32)]))) : en_C l E M_L_find 7 1 6 [.ref 32, .int a0, .int a1, .int a2, .int a3, .int a4, .ref 359] h (pF (some (.int (Int32.ofInt 1))) [] h (fun _ => True)) := by
  refine en_mkW m_L_find rfl hl (Nat.le_of_ble_eq_true rfl) ?_
  refine x_aload (M := M_L_find) dL_find_0 rfl ?_
  refine x_iconst (M := M_L_find) dL_find_2 ?_
  refine x_aload_n (M := M_L_find) dL_find_3 rfl ?_
  refine x_iload_n (M := M_L_find) dL_find_4 rfl ?_
  refine x_iload_n (M := M_L_find) dL_find_5 rfl ?_
  refine x_iload_n (M := M_L_find) dL_find_6 rfl ?_
  refine x_iload (M := M_L_find) dL_find_7 rfl ?_
  refine x_iload (M := M_L_find) dL_find_9 rfl ?_
  refine y_callVHX (M := M_L_find) (M' := M_X11_find) (i9 := 7) (nx := 21) rfl dL_find_11 m_X11_find t_2245 t_2246 t_2247 o5847 rfl (q5846 hl c0 c1 c2 c3) rfl rfl (Nat.le_of_ble_eq_true rfl) (Nat.le_of_ble_eq_true rfl) (Nat.le_of_ble_eq_true rfl) (Nat.le_of_ble_eq_true rfl) (en_hdm (k0 := 7) [] [] rfl (fun _ h => nomatch h) (by decide +kernel) (by decide) t_716 n_723 dL_find_19) (by decide) rfl (fun h5848 f5849 w5850 => ?_)
  refine x_iconst (M := M_L_find) dL_find_21 ?_
  exact x_iret (M := M_L_find) dL_find_22 rfl ⟨rfl, (fr_tr f5849 (fun _ h => nomatch h) fr_rf), trivial⟩ (Nat.le_of_ble_eq_true rfl) (Nat.le_of_ble_eq_true rfl)
set_option maxRecDepth 10000 in
theorem q5872 {l : Launch} {E : EE} (hl : l.stackTraces = false) {h : HP} {a0 : Int32} {a1 : Int32} {a2 : Int32} {a3 : Int32} {a4 : Int32} {dg : Int32} (c0 : ¬ (a0.toInt < 0)) (c1 : ¬ (2 < a0.toInt)) (c2 : ¬ (a1.toInt < (-1000000000))) (c3 : a2.toInt < (-1000000000)) (c4 : 1000000000 < a1.toInt) (o5864 : ob h 277 = some (.inr (15, (RB dg)))) : en_C l E M_X12_find 2 0 0 [.ref 277, .int a0, .int a1, .int a2, .int a3, .int a4] h (pF (some (.int (Int32.ofInt 0))) [277] h (fun h' => ob h' 277 = some (.inr (15, ((RB dg).set 0 (.int (Int32.ofInt 1))))) ∧ True)) := by
  refine en_mk m_X12_find rfl hl (Nat.le_of_ble_eq_true rfl) ?_
  refine x_aload_n (M := M_X12_find) dX12_find_0 rfl ?_
  refine x_iconst (M := M_X12_find) dX12_find_1 ?_
  refine y_put (M := M_X12_find) (ci := 15) (C := RX12) (T := TX12) (N := 135) (ty := tyX12) cl15 dX12_find_2 o5864 0 (by decide) t_2391 (Or.inl rfl) (Nat.le_of_ble_eq_true rfl) rfl (fun h5865 w5866 f5867 => ?_)
  refine x_iload_n (M := M_X12_find) dX12_find_5 rfl ?_
  refine x_i2l (M := M_X12_find) dX12_find_6 ?_
  refine x_lconst (M := M_X12_find) dX12_find_7 ?_
  refine x_ldc2 (M := M_X12_find) dX12_find_8 t_3091 ?_
  refine x_norm (M := M_X12_find) (st' := [.long (Int64.ofInt 2), .long (Int64.ofInt 0), .long (a0.toInt64)]) rfl (vj_cons (by decide +kernel : (2 : Int64) = (Int64.ofInt 2)) (vj_cons (by decide +kernel : (Int64.ofNat ((0 : Fin 2) : Nat)) = (Int64.ofInt 0)) rfl)) rfl rfl rfl ?_
  refine x_callSR (M := M_X12_find) (M' := M_X12_in) rfl rfl dX12_find_11 m_X12_in t_2818 t_2819 (q5833 hl c0 c1) rfl rfl (Nat.le_of_ble_eq_true rfl) (Nat.le_of_ble_eq_true rfl) (Nat.le_of_ble_eq_true rfl) (Nat.le_of_ble_eq_true rfl) ?_
  refine x_if_eq (M := M_X12_find) (tgt := 67) dX12_find_14 (by decide) (fun q => absurd q (by decide +kernel)) (fun _ => ?_)
  refine x_iload_n (M := M_X12_find) dX12_find_17 rfl ?_
  refine x_i2l (M := M_X12_find) dX12_find_18 ?_
  refine x_callSR (M := M_X12_find) (M' := M_X12_isFar) rfl rfl dX12_find_19 m_X12_isFar t_3133 t_3134 (q5442 hl c2 c4) rfl rfl (Nat.le_of_ble_eq_true rfl) (Nat.le_of_ble_eq_true rfl) (Nat.le_of_ble_eq_true rfl) (Nat.le_of_ble_eq_true rfl) ?_
  refine x_if_eq (M := M_X12_find) (tgt := 67) dX12_find_22 (by decide) (fun _ => ?_) (fun q => absurd q (by decide +kernel))
  refine x_iconst (M := M_X12_find) dX12_find_67 ?_
  refine x_istore (M := M_X12_find) dX12_find_68 (Nat.le_of_ble_eq_true rfl) rfl ?_
  refine x_aload_n (M := M_X12_find) dX12_find_70 rfl ?_
  refine x_iload (M := M_X12_find) dX12_find_71 rfl ?_
  refine x_if_ne (M := M_X12_find) (tgt := 80) dX12_find_73 (by decide) (fun q => absurd q (by decide +kernel)) (fun _ => ?_)
  refine x_iconst (M := M_X12_find) dX12_find_76 ?_
  refine x_goto (M := M_X12_find) (tgt := 81) dX12_find_77 (by decide) ?_
  refine x_iconst (M := M_X12_find) dX12_find_81 ?_
  refine y_callVR (M := M_X12_find) (M' := M_X12_fails) rfl rfl dX12_find_82 m_X12_fails t_2805 t_2807 s_157 (q22 hl w5866) rfl rfl w5866 rfl (Nat.le_of_ble_eq_true rfl) (Nat.le_of_ble_eq_true rfl) (Nat.le_of_ble_eq_true rfl) (Nat.le_of_ble_eq_true rfl) (fun h5868 f5869 w5870 => ?_)
  obtain ⟨o5871, -⟩ := w5870
  refine x_if_eq (M := M_X12_find) (tgt := 90) dX12_find_85 (by decide) (fun q => absurd q (by decide +kernel)) (fun _ => ?_)
  refine x_iconst (M := M_X12_find) dX12_find_88 ?_
  exact x_iret (M := M_X12_find) dX12_find_89 rfl ⟨rfl, (fr_tr f5869 (by decide) (fr_tr f5867 (by decide) fr_rf)), ⟨o5871, trivial⟩⟩ (Nat.le_of_ble_eq_true rfl) (Nat.le_of_ble_eq_true rfl)
set_option maxRecDepth 10000 in
theorem lc23_3 {l : Launch} {E : EE} (hl : l.stackTraces = false) (nm : String) {xs : Nat → Int32} (hx : E.2.2.2.2 0 = some (7, xs)) {h : HP} {a0 : Int32} {a1 : Int32} {a2 : Int32} {a3 : Int32} {a4 : Int32} {dg : Int32} (e2 : xs 2 = a0) (e3 : xs 3 = a1) (e4 : xs 4 = a2) (e5 : xs 5 = a3) (e6 : xs 6 = a4) (c0 : ¬ (a0.toInt < 0)) (c1 : ¬ (2 < a0.toInt)) (c2 : ¬ (a1.toInt < (-1000000000))) (c3 : a2.toInt < (-1000000000)) (c4 : 1000000000 < a1.toInt) (o5860 : ob h 32 = some (.inr (14, [.ref 33, .ref 162, .ref 166, .int (0 : Int32), .int (0 : Int32), .int (0 : Int32), .ref 167, .ref 170, .ref 173, .ref 177, .ref 193, .ref 208, .ref 222, .ref 238, .ref 252, .ref 274, .ref 275, .ref 276, .int (0 : Int32)]))) (o5873 : ob h 277 = some (.inr (15, (RB dg)))) : XX l E (M_law nm) 1312 342628 8074320 (fun o _ => o = .inl (some (.int 1))) 1697 [some (.ref 0), some (.ref 32), some (.ref 277), some (.ref 359), some (.int (Int32.ofInt 1)), none, none, none] [] h 328 2463747 := by
  refine x_aload_n (M := (M_law nm)) dL_law_1697 rfl ?_
  refine x_aload_n (M := (M_law nm)) dL_law_1698 rfl ?_
  refine x_iload (M := (M_law nm)) dL_law_1699 rfl ?_
  refine x_iconst (M := (M_law nm)) dL_law_1701 ?_
  refine x_iadd (M := (M_law nm)) dL_law_1702 ?_
  refine x_sald (M := (M_law nm)) dL_law_1703 (by decide) hx (vp_inD (by decide +kernel)) ?_
  refine x_top (M := (M_law nm)) (y := a0) ((congrArg xs (by decide +kernel : ((Int32.ofInt 1) + (Int32.ofInt 1)).toNatClampNeg = 2)).trans e2) ?_
  refine x_aload_n (M := (M_law nm)) dL_law_1704 rfl ?_
  refine x_iload (M := (M_law nm)) dL_law_1705 rfl ?_
  refine x_iconst (M := (M_law nm)) dL_law_1707 ?_
  refine x_iadd (M := (M_law nm)) dL_law_1708 ?_
  refine x_sald (M := (M_law nm)) dL_law_1709 (by decide) hx (vp_inD (by decide +kernel)) ?_
  refine x_top (M := (M_law nm)) (y := a1) ((congrArg xs (by decide +kernel : ((Int32.ofInt 1) + (Int32.ofInt 2)).toNatClampNeg = 3)).trans e3) ?_
  refine x_aload_n (M := (M_law nm)) dL_law_1710 rfl ?_
  refine x_iload (M := (M_law nm)) dL_law_1711 rfl ?_
  refine x_iconst (M := (M_law nm)) dL_law_1713 ?_
  refine x_iadd (M := (M_law nm)) dL_law_1714 ?_
  refine x_sald (M := (M_law nm)) dL_law_1715 (by decide) hx (vp_inD (by decide +kernel)) ?_
  refine x_top (M := (M_law nm)) (y := a2) ((congrArg xs (by decide +kernel : ((Int32.ofInt 1) + (Int32.ofInt 3)).toNatClampNeg = 4)).trans e4) ?_
  refine x_aload_n (M := (M_law nm)) dL_law_1716 rfl ?_
  refine x_iload (M := (M_law nm)) dL_law_1717 rfl ?_
  refine x_iconst (M := (M_law nm)) dL_law_1719 ?_
  refine x_iadd (M := (M_law nm)) dL_law_1720 ?_
  refine x_sald (M := (M_law nm)) dL_law_1721 (by decide) hx (vp_inD (by decide +kernel)) ?_
  refine x_top (M := (M_law nm)) (y := a3) ((congrArg xs (by decide +kernel : ((Int32.ofInt 1) + (Int32.ofInt 4)).toNatClampNeg = 5)).trans e5) ?_
  refine x_aload_n (M := (M_law nm)) dL_law_1722 rfl ?_
  refine x_iload (M := (M_law nm)) dL_law_1723 rfl ?_
  refine x_iconst (M := (M_law nm)) dL_law_1725 ?_
  refine x_iadd (M := (M_law nm)) dL_law_1726 ?_
  refine x_sald (M := (M_law nm)) dL_law_1727 (by decide) hx (vp_inD (by decide +kernel)) ?_
  refine x_top (M := (M_law nm)) (y := a4) ((congrArg xs (by decide +kernel : ((Int32.ofInt 1) + (Int32.ofInt 5)).toNatClampNeg = 6)).trans e6) ?_
  refine x_aload_n (M := (M_law nm)) dL_law_1728 rfl ?_
  refine y_callSW (M := (M_law nm)) (M' := M_L_find) rfl rfl dL_law_1729 m_L_find t_2242 t_2243 (q5851 hl c0 c1 c2 c3 o5860) rfl rfl (Nat.le_of_ble_eq_true rfl) (Nat.le_of_ble_eq_true rfl) (Nat.le_of_ble_eq_true rfl) (Nat.le_of_ble_eq_true rfl) (fun h5861 f5862 w5863 => ?_)
  refine x_istore (M := (M_law nm)) dL_law_1732 (Nat.le_of_ble_eq_true rfl) rfl ?_
  refine x_aload_n (M := (M_law nm)) dL_law_1734 rfl ?_
  refine x_aload_n (M := (M_law nm)) dL_law_1735 rfl ?_
  refine x_iload (M := (M_law nm)) dL_law_1736 rfl ?_
  refine x_iconst (M := (M_law nm)) dL_law_1738 ?_
  refine x_iadd (M := (M_law nm)) dL_law_1739 ?_
  refine x_sald (M := (M_law nm)) dL_law_1740 (by decide) hx (vp_inD (by decide +kernel)) ?_
  refine x_top (M := (M_law nm)) (y := a0) ((congrArg xs (by decide +kernel : ((Int32.ofInt 1) + (Int32.ofInt 1)).toNatClampNeg = 2)).trans e2) ?_
  refine x_aload_n (M := (M_law nm)) dL_law_1741 rfl ?_
  refine x_iload (M := (M_law nm)) dL_law_1742 rfl ?_
  refine x_iconst (M := (M_law nm)) dL_law_1744 ?_
  refine x_iadd (M := (M_law nm)) dL_law_1745 ?_
  refine x_sald (M := (M_law nm)) dL_law_1746 (by decide) hx (vp_inD (by decide +kernel)) ?_
  refine x_top (M := (M_law nm)) (y := a1) ((congrArg xs (by decide +kernel : ((Int32.ofInt 1) + (Int32.ofInt 2)).toNatClampNeg = 3)).trans e3) ?_
  refine x_aload_n (M := (M_law nm)) dL_law_1747 rfl ?_
  refine x_iload (M := (M_law nm)) dL_law_1748 rfl ?_
  refine x_iconst (M := (M_law nm)) dL_law_1750 ?_
  refine x_iadd (M := (M_law nm)) dL_law_1751 ?_
  refine x_sald (M := (M_law nm)) dL_law_1752 (by decide) hx (vp_inD (by decide +kernel)) ?_
  refine x_top (M := (M_law nm)) (y := a2) ((congrArg xs (by decide +kernel : ((Int32.ofInt 1) + (Int32.ofInt 3)).toNatClampNeg = 4)).trans e4) ?_
  refine x_aload_n (M := (M_law nm)) dL_law_1753 rfl ?_
  refine x_iload (M := (M_law nm)) dL_law_1754 rfl ?_
  refine x_iconst (M := (M_law nm)) dL_law_1756 ?_
  refine x_iadd (M := (M_law nm)) dL_law_1757 ?_
  refine x_sald (M := (M_law nm)) dL_law_1758 (by decide) hx (vp_inD (by decide +kernel)) ?_
  refine x_top (M := (M_law nm)) (y := a3) ((congrArg xs (by decide +kernel : ((Int32.ofInt 1) + (Int32.ofInt 4)).toNatClampNeg = 5)).trans e5) ?_
  refine x_aload_n (M := (M_law nm)) dL_law_1759 rfl ?_
  refine x_iload (M := (M_law nm)) dL_law_1760 rfl ?_
  refine x_iconst (M := (M_law nm)) dL_law_1762 ?_
  refine x_iadd (M := (M_law nm)) dL_law_1763 ?_
  refine x_sald (M := (M_law nm)) dL_law_1764 (by decide) hx (vp_inD (by decide +kernel)) ?_
  refine x_top (M := (M_law nm)) (y := a4) ((congrArg xs (by decide +kernel : ((Int32.ofInt 1) + (Int32.ofInt 5)).toNatClampNeg = 6)).trans e6) ?_
  have o5874 := (f5862 277 _ (by decide) o5873)
  refine y_callVR (M := (M_law nm)) (M' := M_X12_find) rfl rfl dL_law_1765 m_X12_find t_3129 t_3130 t_3131 (q5872 hl c0 c1 c2 c3 c4 o5874) rfl rfl o5874 rfl (Nat.le_of_ble_eq_true rfl) (Nat.le_of_ble_eq_true rfl) (Nat.le_of_ble_eq_true rfl) (Nat.le_of_ble_eq_true rfl) (fun h5875 f5876 w5877 => ?_)
  obtain ⟨o5878, -⟩ := w5877
  refine x_istore (M := (M_law nm)) dL_law_1768 (Nat.le_of_ble_eq_true rfl) rfl ?_
  refine x_aload_n (M := (M_law nm)) dL_law_1770 rfl ?_
  refine x_callVR (M := (M_law nm)) (M' := M_X12_thrown) rfl rfl dL_law_1771 m_X12_thrown t_2797 t_2798 t_2799 (q35 hl o5878) rfl rfl o5878 rfl (Nat.le_of_ble_eq_true rfl) (Nat.le_of_ble_eq_true rfl) (Nat.le_of_ble_eq_true rfl) (Nat.le_of_ble_eq_true rfl) ?_
  refine x_iload (M := (M_law nm)) dL_law_1774 rfl ?_
  refine x_icmp_eq (M := (M_law nm)) (tgt := 1781) dL_law_1776 (by decide) (fun _ => ?_) (fun q => absurd q (by decide +kernel))
  refine x_iload (M := (M_law nm)) dL_law_1781 rfl ?_
  refine x_if_ne (M := (M_law nm)) (tgt := 1798) dL_law_1783 (by decide) (fun _ => ?_) (fun q => absurd q (by decide +kernel))
  refine x_goto (M := (M_law nm)) (tgt := 2449) dL_law_1798 (by decide) ?_
  refine x_iinc (M := (M_law nm)) dL_law_2449 rfl (Nat.le_of_ble_eq_true rfl) rfl ?_
  refine x_lvs (M := (M_law nm)) (lv' := [some (.ref 0), some (.ref 32), some (.ref 277), some (.ref 359), some (.int (Int32.ofInt 7)), some (.int (Int32.ofInt 1)), some (.int (Int32.ofInt 0)), none]) (by rw [(by decide +kernel : (Int32.ofInt 1) + Int32.ofInt 6 = (Int32.ofInt 7))] <;> rfl) ?_
  refine x_goto (M := (M_law nm)) (tgt := 33) dL_law_2452 (by decide) ?_
  refine x_iload (M := (M_law nm)) dL_law_33 rfl ?_
  refine x_aload_n (M := (M_law nm)) dL_law_35 rfl ?_
  refine x_slen (M := (M_law nm)) dL_law_36 (by decide) hx ?_
  refine x_bipush (M := (M_law nm)) dL_law_37 ?_
  refine x_isub (M := (M_law nm)) dL_law_39 ?_
  refine x_icmp_gt (M := (M_law nm)) (tgt := 2455) dL_law_40 (by decide) (fun _ => ?_) (fun q => absurd q (by decide +kernel))
  refine x_iconst (M := (M_law nm)) dL_law_2455 ?_
  exact x_zret (M := (M_law nm)) dL_law_2456 rfl (by decide) rfl (Nat.le_of_ble_eq_true rfl) (Nat.le_of_ble_eq_true rfl)
set_option maxRecDepth 10000 in
theorem q5887 {l : Launch} {E : EE} (hl : l.stackTraces = false) {h : HP} {a2 : Int32} (c0 : a2.toInt < (-1000000000)) : en_C l E M_X12_in 0 0 0 [.long (a2.toInt64), .long (Int64.ofInt (-1000000000)), .long (Int64.ofInt 1000000000)] h (pR (some (.int (Int32.ofInt 0))) h) := by
  refine en_mk m_X12_in rfl hl (Nat.le_of_ble_eq_true rfl) ?_
  refine x_lload_n (M := M_X12_in) dX12_in_0 rfl ?_
  refine x_lload_n (M := M_X12_in) dX12_in_1 rfl ?_
  refine x_lcmp (M := M_X12_in) dX12_in_2 ?_
  refine x_if_lt (M := M_X12_in) (tgt := 17) dX12_in_3 (by decide) (fun _ => ?_) (fun q => absurd ((bc_lt (i_i2l rfl) (by decide +kernel)).mpr (by omega : (a2.toInt < (-1000000000) : Prop))) q)
  refine x_iconst (M := M_X12_in) dX12_in_17 ?_
  exact x_zret (M := M_X12_in) dX12_in_18 rfl (by decide) ⟨rfl, rfl⟩ (Nat.le_of_ble_eq_true rfl) (Nat.le_of_ble_eq_true rfl)
set_option maxRecDepth 10000 in
theorem q5888 {l : Launch} {E : EE} (hl : l.stackTraces = false) {h : HP} {a2 : Int32} (c0 : a2.toInt < (-1000000000)) : en_C l E M_X12_isFar 1 0 0 [.long (a2.toInt64)] h (pR (some (.int (Int32.ofInt 0))) h) := by
  refine en_mk m_X12_isFar rfl hl (Nat.le_of_ble_eq_true rfl) ?_
  refine x_lload_n (M := M_X12_isFar) dX12_isFar_0 rfl ?_
  refine x_ldc2 (M := M_X12_isFar) dX12_isFar_1 t_3136 ?_
  refine x_ldc2 (M := M_X12_isFar) dX12_isFar_4 t_2937 ?_
  refine x_norm (M := M_X12_isFar) (st' := [.long (Int64.ofInt 1000000000), .long (Int64.ofInt (-1000000000)), .long (a2.toInt64)]) rfl (vj_cons (by decide +kernel : (1000000000 : Int64) = (Int64.ofInt 1000000000)) (vj_cons (by decide +kernel : (-1000000000 : Int64) = (Int64.ofInt (-1000000000))) rfl)) rfl rfl rfl ?_
  refine x_callSR (M := M_X12_isFar) (M' := M_X12_in) rfl rfl dX12_isFar_7 m_X12_in t_2818 t_2819 (q5887 hl c0) rfl rfl (Nat.le_of_ble_eq_true rfl) (Nat.le_of_ble_eq_true rfl) (Nat.le_of_ble_eq_true rfl) (Nat.le_of_ble_eq_true rfl) ?_
  exact x_zret (M := M_X12_isFar) dX12_isFar_10 rfl (by decide) ⟨rfl, rfl⟩ (Nat.le_of_ble_eq_true rfl) (Nat.le_of_ble_eq_true rfl)
set_option maxRecDepth 10000 in
theorem q5893 {l : Launch} {E : EE} (hl : l.stackTraces = false) {h : HP} {a0 : Int32} {a1 : Int32} {a2 : Int32} {a3 : Int32} {a4 : Int32} {dg : Int32} (c0 : ¬ (a0.toInt < 0)) (c1 : ¬ (2 < a0.toInt)) (c2 : ¬ (a1.toInt < (-1000000000))) (c3 : a2.toInt < (-1000000000)) (c4 : ¬ (1000000000 < a1.toInt)) (o5883 : ob h 277 = some (.inr (15, (RB dg)))) : en_C l E M_X12_find 2 0 0 [.ref 277, .int a0, .int a1, .int a2, .int a3, .int a4] h (pF (some (.int (Int32.ofInt 0))) [277] h (fun h' => ob h' 277 = some (.inr (15, ((RB dg).set 0 (.int (Int32.ofInt 1))))) ∧ True)) := by
  refine en_mk m_X12_find rfl hl (Nat.le_of_ble_eq_true rfl) ?_
  refine x_aload_n (M := M_X12_find) dX12_find_0 rfl ?_
  refine x_iconst (M := M_X12_find) dX12_find_1 ?_
  refine y_put (M := M_X12_find) (ci := 15) (C := RX12) (T := TX12) (N := 135) (ty := tyX12) cl15 dX12_find_2 o5883 0 (by decide) t_2391 (Or.inl rfl) (Nat.le_of_ble_eq_true rfl) rfl (fun h5884 w5885 f5886 => ?_)
  refine x_iload_n (M := M_X12_find) dX12_find_5 rfl ?_
  refine x_i2l (M := M_X12_find) dX12_find_6 ?_
  refine x_lconst (M := M_X12_find) dX12_find_7 ?_
  refine x_ldc2 (M := M_X12_find) dX12_find_8 t_3091 ?_
  refine x_norm (M := M_X12_find) (st' := [.long (Int64.ofInt 2), .long (Int64.ofInt 0), .long (a0.toInt64)]) rfl (vj_cons (by decide +kernel : (2 : Int64) = (Int64.ofInt 2)) (vj_cons (by decide +kernel : (Int64.ofNat ((0 : Fin 2) : Nat)) = (Int64.ofInt 0)) rfl)) rfl rfl rfl ?_
  refine x_callSR (M := M_X12_find) (M' := M_X12_in) rfl rfl dX12_find_11 m_X12_in t_2818 t_2819 (q5833 hl c0 c1) rfl rfl (Nat.le_of_ble_eq_true rfl) (Nat.le_of_ble_eq_true rfl) (Nat.le_of_ble_eq_true rfl) (Nat.le_of_ble_eq_true rfl) ?_
  refine x_if_eq (M := M_X12_find) (tgt := 67) dX12_find_14 (by decide) (fun q => absurd q (by decide +kernel)) (fun _ => ?_)
  refine x_iload_n (M := M_X12_find) dX12_find_17 rfl ?_
  refine x_i2l (M := M_X12_find) dX12_find_18 ?_
  refine x_callSR (M := M_X12_find) (M' := M_X12_isFar) rfl rfl dX12_find_19 m_X12_isFar t_3133 t_3134 (q5646 hl c2 c4) rfl rfl (Nat.le_of_ble_eq_true rfl) (Nat.le_of_ble_eq_true rfl) (Nat.le_of_ble_eq_true rfl) (Nat.le_of_ble_eq_true rfl) ?_
  refine x_if_eq (M := M_X12_find) (tgt := 67) dX12_find_22 (by decide) (fun q => absurd q (by decide +kernel)) (fun _ => ?_)
  refine x_iload_n (M := M_X12_find) dX12_find_25 rfl ?_
  refine x_i2l (M := M_X12_find) dX12_find_26 ?_
  refine x_callSR (M := M_X12_find) (M' := M_X12_isFar) rfl rfl dX12_find_27 m_X12_isFar t_3133 t_3134 (q5888 hl c3) rfl rfl (Nat.le_of_ble_eq_true rfl) (Nat.le_of_ble_eq_true rfl) (Nat.le_of_ble_eq_true rfl) (Nat.le_of_ble_eq_true rfl) ?_
  refine x_if_eq (M := M_X12_find) (tgt := 67) dX12_find_30 (by decide) (fun _ => ?_) (fun q => absurd q (by decide +kernel))
  refine x_iconst (M := M_X12_find) dX12_find_67 ?_
  refine x_istore (M := M_X12_find) dX12_find_68 (Nat.le_of_ble_eq_true rfl) rfl ?_
  refine x_aload_n (M := M_X12_find) dX12_find_70 rfl ?_
  refine x_iload (M := M_X12_find) dX12_find_71 rfl ?_
  refine x_if_ne (M := M_X12_find) (tgt := 80) dX12_find_73 (by decide) (fun q => absurd q (by decide +kernel)) (fun _ => ?_)
  refine x_iconst (M := M_X12_find) dX12_find_76 ?_
  refine x_goto (M := M_X12_find) (tgt := 81) dX12_find_77 (by decide) ?_
  refine x_iconst (M := M_X12_find) dX12_find_81 ?_
  refine y_callVR (M := M_X12_find) (M' := M_X12_fails) rfl rfl dX12_find_82 m_X12_fails t_2805 t_2807 s_157 (q22 hl w5885) rfl rfl w5885 rfl (Nat.le_of_ble_eq_true rfl) (Nat.le_of_ble_eq_true rfl) (Nat.le_of_ble_eq_true rfl) (Nat.le_of_ble_eq_true rfl) (fun h5889 f5890 w5891 => ?_)
  obtain ⟨o5892, -⟩ := w5891
  refine x_if_eq (M := M_X12_find) (tgt := 90) dX12_find_85 (by decide) (fun q => absurd q (by decide +kernel)) (fun _ => ?_)
  refine x_iconst (M := M_X12_find) dX12_find_88 ?_
  exact x_iret (M := M_X12_find) dX12_find_89 rfl ⟨rfl, (fr_tr f5890 (by decide) (fr_tr f5886 (by decide) fr_rf)), ⟨o5892, trivial⟩⟩ (Nat.le_of_ble_eq_true rfl) (Nat.le_of_ble_eq_true rfl)
set_option maxRecDepth 10000 in
theorem lc23_4 {l : Launch} {E : EE} (hl : l.stackTraces = false) (nm : String) {xs : Nat → Int32} (hx : E.2.2.2.2 0 = some (7, xs)) {h : HP} {a0 : Int32} {a1 : Int32} {a2 : Int32} {a3 : Int32} {a4 : Int32} {dg : Int32} (e2 : xs 2 = a0) (e3 : xs 3 = a1) (e4 : xs 4 = a2) (e5 : xs 5 = a3) (e6 : xs 6 = a4) (c0 : ¬ (a0.toInt < 0)) (c1 : ¬ (2 < a0.toInt)) (c2 : ¬ (a1.toInt < (-1000000000))) (c3 : a2.toInt < (-1000000000)) (c4 : ¬ (1000000000 < a1.toInt)) (o5879 : ob h 32 = some (.inr (14, [.ref 33, .ref 162, .ref 166, .int (0 : Int32), .int (0 : Int32), .int (0 : Int32), .ref 167, .ref 170, .ref 173, .ref 177, .ref 193, .ref 208, .ref 222, .ref 238, .ref 252, .ref 274, .ref 275, .ref 276, .int (0 : Int32)]))) (o5894 : ob h 277 = some (.inr (15, (RB dg)))) : XX l E (M_law nm) 1312 342628 8074320 (fun o _ => o = .inl (some (.int 1))) 1697 [some (.ref 0), some (.ref 32), some (.ref 277), some (.ref 359), some (.int (Int32.ofInt 1)), none, none, none] [] h 328 2463747 := by
  refine x_aload_n (M := (M_law nm)) dL_law_1697 rfl ?_
  refine x_aload_n (M := (M_law nm)) dL_law_1698 rfl ?_
  refine x_iload (M := (M_law nm)) dL_law_1699 rfl ?_
  refine x_iconst (M := (M_law nm)) dL_law_1701 ?_
  refine x_iadd (M := (M_law nm)) dL_law_1702 ?_
  refine x_sald (M := (M_law nm)) dL_law_1703 (by decide) hx (vp_inD (by decide +kernel)) ?_
  refine x_top (M := (M_law nm)) (y := a0) ((congrArg xs (by decide +kernel : ((Int32.ofInt 1) + (Int32.ofInt 1)).toNatClampNeg = 2)).trans e2) ?_
  refine x_aload_n (M := (M_law nm)) dL_law_1704 rfl ?_
  refine x_iload (M := (M_law nm)) dL_law_1705 rfl ?_
  refine x_iconst (M := (M_law nm)) dL_law_1707 ?_
  refine x_iadd (M := (M_law nm)) dL_law_1708 ?_
  refine x_sald (M := (M_law nm)) dL_law_1709 (by decide) hx (vp_inD (by decide +kernel)) ?_
  refine x_top (M := (M_law nm)) (y := a1) ((congrArg xs (by decide +kernel : ((Int32.ofInt 1) + (Int32.ofInt 2)).toNatClampNeg = 3)).trans e3) ?_
  refine x_aload_n (M := (M_law nm)) dL_law_1710 rfl ?_
  refine x_iload (M := (M_law nm)) dL_law_1711 rfl ?_
  refine x_iconst (M := (M_law nm)) dL_law_1713 ?_
  refine x_iadd (M := (M_law nm)) dL_law_1714 ?_
  refine x_sald (M := (M_law nm)) dL_law_1715 (by decide) hx (vp_inD (by decide +kernel)) ?_
  refine x_top (M := (M_law nm)) (y := a2) ((congrArg xs (by decide +kernel : ((Int32.ofInt 1) + (Int32.ofInt 3)).toNatClampNeg = 4)).trans e4) ?_
  refine x_aload_n (M := (M_law nm)) dL_law_1716 rfl ?_
  refine x_iload (M := (M_law nm)) dL_law_1717 rfl ?_
  refine x_iconst (M := (M_law nm)) dL_law_1719 ?_
  refine x_iadd (M := (M_law nm)) dL_law_1720 ?_
  refine x_sald (M := (M_law nm)) dL_law_1721 (by decide) hx (vp_inD (by decide +kernel)) ?_
  refine x_top (M := (M_law nm)) (y := a3) ((congrArg xs (by decide +kernel : ((Int32.ofInt 1) + (Int32.ofInt 4)).toNatClampNeg = 5)).trans e5) ?_
  refine x_aload_n (M := (M_law nm)) dL_law_1722 rfl ?_
  refine x_iload (M := (M_law nm)) dL_law_1723 rfl ?_
  refine x_iconst (M := (M_law nm)) dL_law_1725 ?_
  refine x_iadd (M := (M_law nm)) dL_law_1726 ?_
  refine x_sald (M := (M_law nm)) dL_law_1727 (by decide) hx (vp_inD (by decide +kernel)) ?_
  refine x_top (M := (M_law nm)) (y := a4) ((congrArg xs (by decide +kernel : ((Int32.ofInt 1) + (Int32.ofInt 5)).toNatClampNeg = 6)).trans e6) ?_
  refine x_aload_n (M := (M_law nm)) dL_law_1728 rfl ?_
  refine y_callSW (M := (M_law nm)) (M' := M_L_find) rfl rfl dL_law_1729 m_L_find t_2242 t_2243 (q5851 hl c0 c1 c2 c3 o5879) rfl rfl (Nat.le_of_ble_eq_true rfl) (Nat.le_of_ble_eq_true rfl) (Nat.le_of_ble_eq_true rfl) (Nat.le_of_ble_eq_true rfl) (fun h5880 f5881 w5882 => ?_)
  refine x_istore (M := (M_law nm)) dL_law_1732 (Nat.le_of_ble_eq_true rfl) rfl ?_
  refine x_aload_n (M := (M_law nm)) dL_law_1734 rfl ?_
  refine x_aload_n (M := (M_law nm)) dL_law_1735 rfl ?_
  refine x_iload (M := (M_law nm)) dL_law_1736 rfl ?_
  refine x_iconst (M := (M_law nm)) dL_law_1738 ?_
  refine x_iadd (M := (M_law nm)) dL_law_1739 ?_
  refine x_sald (M := (M_law nm)) dL_law_1740 (by decide) hx (vp_inD (by decide +kernel)) ?_
  refine x_top (M := (M_law nm)) (y := a0) ((congrArg xs (by decide +kernel : ((Int32.ofInt 1) + (Int32.ofInt 1)).toNatClampNeg = 2)).trans e2) ?_
  refine x_aload_n (M := (M_law nm)) dL_law_1741 rfl ?_
  refine x_iload (M := (M_law nm)) dL_law_1742 rfl ?_
  refine x_iconst (M := (M_law nm)) dL_law_1744 ?_
  refine x_iadd (M := (M_law nm)) dL_law_1745 ?_
  refine x_sald (M := (M_law nm)) dL_law_1746 (by decide) hx (vp_inD (by decide +kernel)) ?_
  refine x_top (M := (M_law nm)) (y := a1) ((congrArg xs (by decide +kernel : ((Int32.ofInt 1) + (Int32.ofInt 2)).toNatClampNeg = 3)).trans e3) ?_
  refine x_aload_n (M := (M_law nm)) dL_law_1747 rfl ?_
  refine x_iload (M := (M_law nm)) dL_law_1748 rfl ?_
  refine x_iconst (M := (M_law nm)) dL_law_1750 ?_
  refine x_iadd (M := (M_law nm)) dL_law_1751 ?_
  refine x_sald (M := (M_law nm)) dL_law_1752 (by decide) hx (vp_inD (by decide +kernel)) ?_
  refine x_top (M := (M_law nm)) (y := a2) ((congrArg xs (by decide +kernel : ((Int32.ofInt 1) + (Int32.ofInt 3)).toNatClampNeg = 4)).trans e4) ?_
  refine x_aload_n (M := (M_law nm)) dL_law_1753 rfl ?_
  refine x_iload (M := (M_law nm)) dL_law_1754 rfl ?_
  refine x_iconst (M := (M_law nm)) dL_law_1756 ?_
  refine x_iadd (M := (M_law nm)) dL_law_1757 ?_
  refine x_sald (M := (M_law nm)) dL_law_1758 (by decide) hx (vp_inD (by decide +kernel)) ?_
  refine x_top (M := (M_law nm)) (y := a3) ((congrArg xs (by decide +kernel : ((Int32.ofInt 1) + (Int32.ofInt 4)).toNatClampNeg = 5)).trans e5) ?_
  refine x_aload_n (M := (M_law nm)) dL_law_1759 rfl ?_
  refine x_iload (M := (M_law nm)) dL_law_1760 rfl ?_
  refine x_iconst (M := (M_law nm)) dL_law_1762 ?_
  refine x_iadd (M := (M_law nm)) dL_law_1763 ?_
  refine x_sald (M := (M_law nm)) dL_law_1764 (by decide) hx (vp_inD (by decide +kernel)) ?_
  refine x_top (M := (M_law nm)) (y := a4) ((congrArg xs (by decide +kernel : ((Int32.ofInt 1) + (Int32.ofInt 5)).toNatClampNeg = 6)).trans e6) ?_
  have o5895 := (f5881 277 _ (by decide) o5894)
  refine y_callVR (M := (M_law nm)) (M' := M_X12_find) rfl rfl dL_law_1765 m_X12_find t_3129 t_3130 t_3131 (q5893 hl c0 c1 c2 c3 c4 o5895) rfl rfl o5895 rfl (Nat.le_of_ble_eq_true rfl) (Nat.le_of_ble_eq_true rfl) (Nat.le_of_ble_eq_true rfl) (Nat.le_of_ble_eq_true rfl) (fun h5896 f5897 w5898 => ?_)
  obtain ⟨o5899, -⟩ := w5898
  refine x_istore (M := (M_law nm)) dL_law_1768 (Nat.le_of_ble_eq_true rfl) rfl ?_
  refine x_aload_n (M := (M_law nm)) dL_law_1770 rfl ?_
  refine x_callVR (M := (M_law nm)) (M' := M_X12_thrown) rfl rfl dL_law_1771 m_X12_thrown t_2797 t_2798 t_2799 (q35 hl o5899) rfl rfl o5899 rfl (Nat.le_of_ble_eq_true rfl) (Nat.le_of_ble_eq_true rfl) (Nat.le_of_ble_eq_true rfl) (Nat.le_of_ble_eq_true rfl) ?_
  refine x_iload (M := (M_law nm)) dL_law_1774 rfl ?_
  refine x_icmp_eq (M := (M_law nm)) (tgt := 1781) dL_law_1776 (by decide) (fun _ => ?_) (fun q => absurd q (by decide +kernel))
  refine x_iload (M := (M_law nm)) dL_law_1781 rfl ?_
  refine x_if_ne (M := (M_law nm)) (tgt := 1798) dL_law_1783 (by decide) (fun _ => ?_) (fun q => absurd q (by decide +kernel))
  refine x_goto (M := (M_law nm)) (tgt := 2449) dL_law_1798 (by decide) ?_
  refine x_iinc (M := (M_law nm)) dL_law_2449 rfl (Nat.le_of_ble_eq_true rfl) rfl ?_
  refine x_lvs (M := (M_law nm)) (lv' := [some (.ref 0), some (.ref 32), some (.ref 277), some (.ref 359), some (.int (Int32.ofInt 7)), some (.int (Int32.ofInt 1)), some (.int (Int32.ofInt 0)), none]) (by rw [(by decide +kernel : (Int32.ofInt 1) + Int32.ofInt 6 = (Int32.ofInt 7))] <;> rfl) ?_
  refine x_goto (M := (M_law nm)) (tgt := 33) dL_law_2452 (by decide) ?_
  refine x_iload (M := (M_law nm)) dL_law_33 rfl ?_
  refine x_aload_n (M := (M_law nm)) dL_law_35 rfl ?_
  refine x_slen (M := (M_law nm)) dL_law_36 (by decide) hx ?_
  refine x_bipush (M := (M_law nm)) dL_law_37 ?_
  refine x_isub (M := (M_law nm)) dL_law_39 ?_
  refine x_icmp_gt (M := (M_law nm)) (tgt := 2455) dL_law_40 (by decide) (fun _ => ?_) (fun q => absurd q (by decide +kernel))
  refine x_iconst (M := (M_law nm)) dL_law_2455 ?_
  exact x_zret (M := (M_law nm)) dL_law_2456 rfl (by decide) rfl (Nat.le_of_ble_eq_true rfl) (Nat.le_of_ble_eq_true rfl)
set_option maxRecDepth 10000 in
theorem q5901 {l : Launch} {E : EE} (hl : l.stackTraces = false) {h : HP} {a0 : Int32} {a1 : Int32} {a2 : Int32} {a3 : Int32} {a4 : Int32} (c0 : ¬ (a0.toInt < 0)) (c1 : ¬ (2 < a0.toInt)) (c2 : ¬ (a1.toInt < (-1000000000))) (c3 : ¬ (a2.toInt < (-1000000000))) (c4 : 1000000000 < a3.toInt) : en_C l E M_X11_find 6 1 6 [.ref 32, .int a0, .int a1, .int a2, .int a3, .int a4] h (pT "java/lang/IllegalArgumentException" [] h (fun _ => True)) := by
  refine en_mk m_X11_find rfl hl (Nat.le_of_ble_eq_true rfl) ?_
  refine x_iload_n (M := M_X11_find) dX11_find_0 rfl ?_
  refine x_if_lt (M := M_X11_find) (tgt := 51) dX11_find_1 (by decide) (fun q => absurd ((bi_lt rfl (by decide +kernel)).mp q) (by omega : ¬ (a0.toInt < 0))) (fun _ => ?_)
  refine x_iload_n (M := M_X11_find) dX11_find_4 rfl ?_
  refine x_iconst (M := M_X11_find) dX11_find_5 ?_
  refine x_icmp_gt (M := M_X11_find) (tgt := 51) dX11_find_6 (by decide) (fun q => absurd ((bi_lt (by decide +kernel) rfl).mp q) (by omega : ¬ (2 < a0.toInt))) (fun _ => ?_)
  refine x_iload_n (M := M_X11_find) dX11_find_9 rfl ?_
  refine x_ldcw (M := M_X11_find) dX11_find_10 t_2249 ?_
  refine x_icmp_lt (M := M_X11_find) (tgt := 51) dX11_find_13 (by decide) (fun q => absurd ((bi_lt rfl (by decide +kernel)).mp q) (by omega : ¬ (a1.toInt < (-1000000000)))) (fun _ => ?_)
  refine x_iload_n (M := M_X11_find) dX11_find_16 rfl ?_
  refine x_ldcw (M := M_X11_find) dX11_find_17 t_2249 ?_
  refine x_icmp_lt (M := M_X11_find) (tgt := 51) dX11_find_20 (by decide) (fun q => absurd ((bi_lt rfl (by decide +kernel)).mp q) (by omega : ¬ (a2.toInt < (-1000000000)))) (fun _ => ?_)
  refine x_iload (M := M_X11_find) dX11_find_23 rfl ?_
  refine x_ldcw (M := M_X11_find) dX11_find_25 t_2191 ?_
  refine x_icmp_gt (M := M_X11_find) (tgt := 51) dX11_find_28 (by decide) (fun _ => ?_) (fun q => absurd ((bi_lt (by decide +kernel) rfl).mpr (by omega : (1000000000 < a3.toInt : Prop))) q)
  exact x_throw (M := M_X11_find) (names := en_nm) rfl dX11_find_51 dX11_find_54 dX11_find_55 dX11_find_58 (by decide +kernel) en_nm_ok (Or.inl t_721) (Or.inl t_19) (at_X11_IllegalArgumentException_118) (Nat.le_of_ble_eq_true rfl) (Nat.le_of_ble_eq_true rfl) (Nat.le_of_ble_eq_true rfl) (Nat.le_of_ble_eq_true rfl) (fun n9 => ⟨rfl, (fr_tr (fr_app (List.replicate n9 none)) (fun _ h => nomatch h) fr_rf), trivial⟩)
set_option maxRecDepth 10000 in
theorem q5906 {l : Launch} {E : EE} (hl : l.stackTraces = false) {h : HP} {a0 : Int32} {a1 : Int32} {a2 : Int32} {a3 : Int32} {a4 : Int32} (c0 : ¬ (a0.toInt < 0)) (c1 : ¬ (2 < a0.toInt)) (c2 : ¬ (a1.toInt < (-1000000000))) (c3 : ¬ (a2.toInt < (-1000000000))) (c4 : 1000000000 < a3.toInt) (o5902 : ob h 32 = some (.inr (14, [.ref 33, .ref 162, .ref 166, .int (0 : Int32), .int (0 : Int32), .int (0 : Int32), .ref 167, .ref 170, .ref 173, .ref 177, .ref 193, .ref 208, .ref 222, .ref 238, .ref 252, .ref 274, .ref 275, .ref 276, .int (0 : Int32)]))) : en_C l E M_L_find 7 1 6 [.ref 32, .int a0, .int a1, .int a2, .int a3, .int a4, .ref 359] h (pF (some (.int (Int32.ofInt 1))) [] h (fun _ => True)) := by
  refine en_mkW m_L_find rfl hl (Nat.le_of_ble_eq_true rfl) ?_
  refine x_aload (M := M_L_find) dL_find_0 rfl ?_
  refine x_iconst (M := M_L_find) dL_find_2 ?_
  refine x_aload_n (M := M_L_find) dL_find_3 rfl ?_
  refine x_iload_n (M := M_L_find) dL_find_4 rfl ?_
  refine x_iload_n (M := M_L_find) dL_find_5 rfl ?_
  refine x_iload_n (M := M_L_find) dL_find_6 rfl ?_
  refine x_iload (M := M_L_find) dL_find_7 rfl ?_
  refine x_iload (M := M_L_find) dL_find_9 rfl ?_
  refine y_callVHX (M := M_L_find) (M' := M_X11_find) (i9 := 7) (nx := 21) rfl dL_find_11 m_X11_find t_2245 t_2246 t_2247 o5902 rfl (q5901 hl c0 c1 c2 c3 c4) rfl rfl (Nat.le_of_ble_eq_true rfl) (Nat.le_of_ble_eq_true rfl) (Nat.le_of_ble_eq_true rfl) (Nat.le_of_ble_eq_true rfl) (en_hdm (k0 := 7) [] [] rfl (fun _ h => nomatch h) (by decide +kernel) (by decide) t_716 n_723 dL_find_19) (by decide) rfl (fun h5903 f5904 w5905 => ?_)
  refine x_iconst (M := M_L_find) dL_find_21 ?_
  exact x_iret (M := M_L_find) dL_find_22 rfl ⟨rfl, (fr_tr f5904 (fun _ h => nomatch h) fr_rf), trivial⟩ (Nat.le_of_ble_eq_true rfl) (Nat.le_of_ble_eq_true rfl)
set_option maxRecDepth 10000 in
theorem q5927 {l : Launch} {E : EE} (hl : l.stackTraces = false) {h : HP} {a0 : Int32} {a1 : Int32} {a2 : Int32} {a3 : Int32} {a4 : Int32} {dg : Int32} (c0 : ¬ (a0.toInt < 0)) (c1 : ¬ (2 < a0.toInt)) (c2 : ¬ (a1.toInt < (-1000000000))) (c3 : ¬ (a2.toInt < (-1000000000))) (c4 : 1000000000 < a3.toInt) (c5 : 1000000000 < a1.toInt) (o5919 : ob h 277 = some (.inr (15, (RB dg)))) : en_C l E M_X12_find 2 0 0 [.ref 277, .int a0, .int a1, .int a2, .int a3, .int a4] h (pF (some (.int (Int32.ofInt 0))) [277] h (fun h' => ob h' 277 = some (.inr (15, ((RB dg).set 0 (.int (Int32.ofInt 1))))) ∧ True)) := by
  refine en_mk m_X12_find rfl hl (Nat.le_of_ble_eq_true rfl) ?_
  refine x_aload_n (M := M_X12_find) dX12_find_0 rfl ?_
  refine x_iconst (M := M_X12_find) dX12_find_1 ?_
  refine y_put (M := M_X12_find) (ci := 15) (C := RX12) (T := TX12) (N := 135) (ty := tyX12) cl15 dX12_find_2 o5919 0 (by decide) t_2391 (Or.inl rfl) (Nat.le_of_ble_eq_true rfl) rfl (fun h5920 w5921 f5922 => ?_)
  refine x_iload_n (M := M_X12_find) dX12_find_5 rfl ?_
  refine x_i2l (M := M_X12_find) dX12_find_6 ?_
  refine x_lconst (M := M_X12_find) dX12_find_7 ?_
  refine x_ldc2 (M := M_X12_find) dX12_find_8 t_3091 ?_
  refine x_norm (M := M_X12_find) (st' := [.long (Int64.ofInt 2), .long (Int64.ofInt 0), .long (a0.toInt64)]) rfl (vj_cons (by decide +kernel : (2 : Int64) = (Int64.ofInt 2)) (vj_cons (by decide +kernel : (Int64.ofNat ((0 : Fin 2) : Nat)) = (Int64.ofInt 0)) rfl)) rfl rfl rfl ?_
  refine x_callSR (M := M_X12_find) (M' := M_X12_in) rfl rfl dX12_find_11 m_X12_in t_2818 t_2819 (q5833 hl c0 c1) rfl rfl (Nat.le_of_ble_eq_true rfl) (Nat.le_of_ble_eq_true rfl) (Nat.le_of_ble_eq_true rfl) (Nat.le_of_ble_eq_true rfl) ?_
  refine x_if_eq (M := M_X12_find) (tgt := 67) dX12_find_14 (by decide) (fun q => absurd q (by decide +kernel)) (fun _ => ?_)
  refine x_iload_n (M := M_X12_find) dX12_find_17 rfl ?_
  refine x_i2l (M := M_X12_find) dX12_find_18 ?_
  refine x_callSR (M := M_X12_find) (M' := M_X12_isFar) rfl rfl dX12_find_19 m_X12_isFar t_3133 t_3134 (q5442 hl c2 c5) rfl rfl (Nat.le_of_ble_eq_true rfl) (Nat.le_of_ble_eq_true rfl) (Nat.le_of_ble_eq_true rfl) (Nat.le_of_ble_eq_true rfl) ?_
  refine x_if_eq (M := M_X12_find) (tgt := 67) dX12_find_22 (by decide) (fun _ => ?_) (fun q => absurd q (by decide +kernel))
  refine x_iconst (M := M_X12_find) dX12_find_67 ?_
  refine x_istore (M := M_X12_find) dX12_find_68 (Nat.le_of_ble_eq_true rfl) rfl ?_
  refine x_aload_n (M := M_X12_find) dX12_find_70 rfl ?_
  refine x_iload (M := M_X12_find) dX12_find_71 rfl ?_
  refine x_if_ne (M := M_X12_find) (tgt := 80) dX12_find_73 (by decide) (fun q => absurd q (by decide +kernel)) (fun _ => ?_)
  refine x_iconst (M := M_X12_find) dX12_find_76 ?_
  refine x_goto (M := M_X12_find) (tgt := 81) dX12_find_77 (by decide) ?_
  refine x_iconst (M := M_X12_find) dX12_find_81 ?_
  refine y_callVR (M := M_X12_find) (M' := M_X12_fails) rfl rfl dX12_find_82 m_X12_fails t_2805 t_2807 s_157 (q22 hl w5921) rfl rfl w5921 rfl (Nat.le_of_ble_eq_true rfl) (Nat.le_of_ble_eq_true rfl) (Nat.le_of_ble_eq_true rfl) (Nat.le_of_ble_eq_true rfl) (fun h5923 f5924 w5925 => ?_)
  obtain ⟨o5926, -⟩ := w5925
  refine x_if_eq (M := M_X12_find) (tgt := 90) dX12_find_85 (by decide) (fun q => absurd q (by decide +kernel)) (fun _ => ?_)
  refine x_iconst (M := M_X12_find) dX12_find_88 ?_
  exact x_iret (M := M_X12_find) dX12_find_89 rfl ⟨rfl, (fr_tr f5924 (by decide) (fr_tr f5922 (by decide) fr_rf)), ⟨o5926, trivial⟩⟩ (Nat.le_of_ble_eq_true rfl) (Nat.le_of_ble_eq_true rfl)
set_option maxRecDepth 10000 in
theorem lc23_5 {l : Launch} {E : EE} (hl : l.stackTraces = false) (nm : String) {xs : Nat → Int32} (hx : E.2.2.2.2 0 = some (7, xs)) {h : HP} {a0 : Int32} {a1 : Int32} {a2 : Int32} {a3 : Int32} {a4 : Int32} {dg : Int32} (e2 : xs 2 = a0) (e3 : xs 3 = a1) (e4 : xs 4 = a2) (e5 : xs 5 = a3) (e6 : xs 6 = a4) (c0 : ¬ (a0.toInt < 0)) (c1 : ¬ (2 < a0.toInt)) (c2 : ¬ (a1.toInt < (-1000000000))) (c3 : ¬ (a2.toInt < (-1000000000))) (c4 : 1000000000 < a3.toInt) (c5 : 1000000000 < a1.toInt) (o5915 : ob h 32 = some (.inr (14, [.ref 33, .ref 162, .ref 166, .int (0 : Int32), .int (0 : Int32), .int (0 : Int32), .ref 167, .ref 170, .ref 173, .ref 177, .ref 193, .ref 208, .ref 222, .ref 238, .ref 252, .ref 274, .ref 275, .ref 276, .int (0 : Int32)]))) (o5928 : ob h 277 = some (.inr (15, (RB dg)))) : XX l E (M_law nm) 1312 342628 8074320 (fun o _ => o = .inl (some (.int 1))) 1697 [some (.ref 0), some (.ref 32), some (.ref 277), some (.ref 359), some (.int (Int32.ofInt 1)), none, none, none] [] h 328 2463747 := by
  refine x_aload_n (M := (M_law nm)) dL_law_1697 rfl ?_
  refine x_aload_n (M := (M_law nm)) dL_law_1698 rfl ?_
  refine x_iload (M := (M_law nm)) dL_law_1699 rfl ?_
  refine x_iconst (M := (M_law nm)) dL_law_1701 ?_
  refine x_iadd (M := (M_law nm)) dL_law_1702 ?_
  refine x_sald (M := (M_law nm)) dL_law_1703 (by decide) hx (vp_inD (by decide +kernel)) ?_
  refine x_top (M := (M_law nm)) (y := a0) ((congrArg xs (by decide +kernel : ((Int32.ofInt 1) + (Int32.ofInt 1)).toNatClampNeg = 2)).trans e2) ?_
  refine x_aload_n (M := (M_law nm)) dL_law_1704 rfl ?_
  refine x_iload (M := (M_law nm)) dL_law_1705 rfl ?_
  refine x_iconst (M := (M_law nm)) dL_law_1707 ?_
  refine x_iadd (M := (M_law nm)) dL_law_1708 ?_
  refine x_sald (M := (M_law nm)) dL_law_1709 (by decide) hx (vp_inD (by decide +kernel)) ?_
  refine x_top (M := (M_law nm)) (y := a1) ((congrArg xs (by decide +kernel : ((Int32.ofInt 1) + (Int32.ofInt 2)).toNatClampNeg = 3)).trans e3) ?_
  refine x_aload_n (M := (M_law nm)) dL_law_1710 rfl ?_
  refine x_iload (M := (M_law nm)) dL_law_1711 rfl ?_
  refine x_iconst (M := (M_law nm)) dL_law_1713 ?_
  refine x_iadd (M := (M_law nm)) dL_law_1714 ?_
  refine x_sald (M := (M_law nm)) dL_law_1715 (by decide) hx (vp_inD (by decide +kernel)) ?_
  refine x_top (M := (M_law nm)) (y := a2) ((congrArg xs (by decide +kernel : ((Int32.ofInt 1) + (Int32.ofInt 3)).toNatClampNeg = 4)).trans e4) ?_
  refine x_aload_n (M := (M_law nm)) dL_law_1716 rfl ?_
  refine x_iload (M := (M_law nm)) dL_law_1717 rfl ?_
  refine x_iconst (M := (M_law nm)) dL_law_1719 ?_
  refine x_iadd (M := (M_law nm)) dL_law_1720 ?_
  refine x_sald (M := (M_law nm)) dL_law_1721 (by decide) hx (vp_inD (by decide +kernel)) ?_
  refine x_top (M := (M_law nm)) (y := a3) ((congrArg xs (by decide +kernel : ((Int32.ofInt 1) + (Int32.ofInt 4)).toNatClampNeg = 5)).trans e5) ?_
  refine x_aload_n (M := (M_law nm)) dL_law_1722 rfl ?_
  refine x_iload (M := (M_law nm)) dL_law_1723 rfl ?_
  refine x_iconst (M := (M_law nm)) dL_law_1725 ?_
  refine x_iadd (M := (M_law nm)) dL_law_1726 ?_
  refine x_sald (M := (M_law nm)) dL_law_1727 (by decide) hx (vp_inD (by decide +kernel)) ?_
  refine x_top (M := (M_law nm)) (y := a4) ((congrArg xs (by decide +kernel : ((Int32.ofInt 1) + (Int32.ofInt 5)).toNatClampNeg = 6)).trans e6) ?_
  refine x_aload_n (M := (M_law nm)) dL_law_1728 rfl ?_
  refine y_callSW (M := (M_law nm)) (M' := M_L_find) rfl rfl dL_law_1729 m_L_find t_2242 t_2243 (q5906 hl c0 c1 c2 c3 c4 o5915) rfl rfl (Nat.le_of_ble_eq_true rfl) (Nat.le_of_ble_eq_true rfl) (Nat.le_of_ble_eq_true rfl) (Nat.le_of_ble_eq_true rfl) (fun h5916 f5917 w5918 => ?_)
  refine x_istore (M := (M_law nm)) dL_law_1732 (Nat.le_of_ble_eq_true rfl) rfl ?_
  refine x_aload_n (M := (M_law nm)) dL_law_1734 rfl ?_
  refine x_aload_n (M := (M_law nm)) dL_law_1735 rfl ?_
  refine x_iload (M := (M_law nm)) dL_law_1736 rfl ?_
  refine x_iconst (M := (M_law nm)) dL_law_1738 ?_
  refine x_iadd (M := (M_law nm)) dL_law_1739 ?_
  refine x_sald (M := (M_law nm)) dL_law_1740 (by decide) hx (vp_inD (by decide +kernel)) ?_
  refine x_top (M := (M_law nm)) (y := a0) ((congrArg xs (by decide +kernel : ((Int32.ofInt 1) + (Int32.ofInt 1)).toNatClampNeg = 2)).trans e2) ?_
  refine x_aload_n (M := (M_law nm)) dL_law_1741 rfl ?_
  refine x_iload (M := (M_law nm)) dL_law_1742 rfl ?_
  refine x_iconst (M := (M_law nm)) dL_law_1744 ?_
  refine x_iadd (M := (M_law nm)) dL_law_1745 ?_
  refine x_sald (M := (M_law nm)) dL_law_1746 (by decide) hx (vp_inD (by decide +kernel)) ?_
  refine x_top (M := (M_law nm)) (y := a1) ((congrArg xs (by decide +kernel : ((Int32.ofInt 1) + (Int32.ofInt 2)).toNatClampNeg = 3)).trans e3) ?_
  refine x_aload_n (M := (M_law nm)) dL_law_1747 rfl ?_
  refine x_iload (M := (M_law nm)) dL_law_1748 rfl ?_
  refine x_iconst (M := (M_law nm)) dL_law_1750 ?_
  refine x_iadd (M := (M_law nm)) dL_law_1751 ?_
  refine x_sald (M := (M_law nm)) dL_law_1752 (by decide) hx (vp_inD (by decide +kernel)) ?_
  refine x_top (M := (M_law nm)) (y := a2) ((congrArg xs (by decide +kernel : ((Int32.ofInt 1) + (Int32.ofInt 3)).toNatClampNeg = 4)).trans e4) ?_
  refine x_aload_n (M := (M_law nm)) dL_law_1753 rfl ?_
  refine x_iload (M := (M_law nm)) dL_law_1754 rfl ?_
  refine x_iconst (M := (M_law nm)) dL_law_1756 ?_
  refine x_iadd (M := (M_law nm)) dL_law_1757 ?_
  refine x_sald (M := (M_law nm)) dL_law_1758 (by decide) hx (vp_inD (by decide +kernel)) ?_
  refine x_top (M := (M_law nm)) (y := a3) ((congrArg xs (by decide +kernel : ((Int32.ofInt 1) + (Int32.ofInt 4)).toNatClampNeg = 5)).trans e5) ?_
  refine x_aload_n (M := (M_law nm)) dL_law_1759 rfl ?_
  refine x_iload (M := (M_law nm)) dL_law_1760 rfl ?_
  refine x_iconst (M := (M_law nm)) dL_law_1762 ?_
  refine x_iadd (M := (M_law nm)) dL_law_1763 ?_
  refine x_sald (M := (M_law nm)) dL_law_1764 (by decide) hx (vp_inD (by decide +kernel)) ?_
  refine x_top (M := (M_law nm)) (y := a4) ((congrArg xs (by decide +kernel : ((Int32.ofInt 1) + (Int32.ofInt 5)).toNatClampNeg = 6)).trans e6) ?_
  have o5929 := (f5917 277 _ (by decide) o5928)
  refine y_callVR (M := (M_law nm)) (M' := M_X12_find) rfl rfl dL_law_1765 m_X12_find t_3129 t_3130 t_3131 (q5927 hl c0 c1 c2 c3 c4 c5 o5929) rfl rfl o5929 rfl (Nat.le_of_ble_eq_true rfl) (Nat.le_of_ble_eq_true rfl) (Nat.le_of_ble_eq_true rfl) (Nat.le_of_ble_eq_true rfl) (fun h5930 f5931 w5932 => ?_)
  obtain ⟨o5933, -⟩ := w5932
  refine x_istore (M := (M_law nm)) dL_law_1768 (Nat.le_of_ble_eq_true rfl) rfl ?_
  refine x_aload_n (M := (M_law nm)) dL_law_1770 rfl ?_
  refine x_callVR (M := (M_law nm)) (M' := M_X12_thrown) rfl rfl dL_law_1771 m_X12_thrown t_2797 t_2798 t_2799 (q35 hl o5933) rfl rfl o5933 rfl (Nat.le_of_ble_eq_true rfl) (Nat.le_of_ble_eq_true rfl) (Nat.le_of_ble_eq_true rfl) (Nat.le_of_ble_eq_true rfl) ?_
  refine x_iload (M := (M_law nm)) dL_law_1774 rfl ?_
  refine x_icmp_eq (M := (M_law nm)) (tgt := 1781) dL_law_1776 (by decide) (fun _ => ?_) (fun q => absurd q (by decide +kernel))
  refine x_iload (M := (M_law nm)) dL_law_1781 rfl ?_
  refine x_if_ne (M := (M_law nm)) (tgt := 1798) dL_law_1783 (by decide) (fun _ => ?_) (fun q => absurd q (by decide +kernel))
  refine x_goto (M := (M_law nm)) (tgt := 2449) dL_law_1798 (by decide) ?_
  refine x_iinc (M := (M_law nm)) dL_law_2449 rfl (Nat.le_of_ble_eq_true rfl) rfl ?_
  refine x_lvs (M := (M_law nm)) (lv' := [some (.ref 0), some (.ref 32), some (.ref 277), some (.ref 359), some (.int (Int32.ofInt 7)), some (.int (Int32.ofInt 1)), some (.int (Int32.ofInt 0)), none]) (by rw [(by decide +kernel : (Int32.ofInt 1) + Int32.ofInt 6 = (Int32.ofInt 7))] <;> rfl) ?_
  refine x_goto (M := (M_law nm)) (tgt := 33) dL_law_2452 (by decide) ?_
  refine x_iload (M := (M_law nm)) dL_law_33 rfl ?_
  refine x_aload_n (M := (M_law nm)) dL_law_35 rfl ?_
  refine x_slen (M := (M_law nm)) dL_law_36 (by decide) hx ?_
  refine x_bipush (M := (M_law nm)) dL_law_37 ?_
  refine x_isub (M := (M_law nm)) dL_law_39 ?_
  refine x_icmp_gt (M := (M_law nm)) (tgt := 2455) dL_law_40 (by decide) (fun _ => ?_) (fun q => absurd q (by decide +kernel))
  refine x_iconst (M := (M_law nm)) dL_law_2455 ?_
  exact x_zret (M := (M_law nm)) dL_law_2456 rfl (by decide) rfl (Nat.le_of_ble_eq_true rfl) (Nat.le_of_ble_eq_true rfl)
set_option maxRecDepth 10000 in
theorem q5950 {l : Launch} {E : EE} (hl : l.stackTraces = false) {h : HP} {a2 : Int32} (c0 : ¬ (a2.toInt < (-1000000000))) (c1 : 1000000000 < a2.toInt) : en_C l E M_X12_in 0 0 0 [.long (a2.toInt64), .long (Int64.ofInt (-1000000000)), .long (Int64.ofInt 1000000000)] h (pR (some (.int (Int32.ofInt 0))) h) := by
  refine en_mk m_X12_in rfl hl (Nat.le_of_ble_eq_true rfl) ?_
  refine x_lload_n (M := M_X12_in) dX12_in_0 rfl ?_
  refine x_lload_n (M := M_X12_in) dX12_in_1 rfl ?_
  refine x_lcmp (M := M_X12_in) dX12_in_2 ?_
  refine x_if_lt (M := M_X12_in) (tgt := 17) dX12_in_3 (by decide) (fun q => absurd ((bc_lt (i_i2l rfl) (by decide +kernel)).mp q) (by omega : ¬ (a2.toInt < (-1000000000)))) (fun _ => ?_)
  refine x_lload_n (M := M_X12_in) dX12_in_6 rfl ?_
  refine x_lload (M := M_X12_in) dX12_in_7 rfl ?_
  refine x_lcmp (M := M_X12_in) dX12_in_9 ?_
  refine x_if_gt (M := M_X12_in) (tgt := 17) dX12_in_10 (by decide) (fun _ => ?_) (fun q => absurd ((bc_gt (i_i2l rfl) (by decide +kernel)).mpr (by omega : (1000000000 < a2.toInt : Prop))) q)
  refine x_iconst (M := M_X12_in) dX12_in_17 ?_
  exact x_zret (M := M_X12_in) dX12_in_18 rfl (by decide) ⟨rfl, rfl⟩ (Nat.le_of_ble_eq_true rfl) (Nat.le_of_ble_eq_true rfl)
set_option maxRecDepth 10000 in
theorem q5951 {l : Launch} {E : EE} (hl : l.stackTraces = false) {h : HP} {a2 : Int32} (c0 : ¬ (a2.toInt < (-1000000000))) (c1 : 1000000000 < a2.toInt) : en_C l E M_X12_isFar 1 0 0 [.long (a2.toInt64)] h (pR (some (.int (Int32.ofInt 0))) h) := by
  refine en_mk m_X12_isFar rfl hl (Nat.le_of_ble_eq_true rfl) ?_
  refine x_lload_n (M := M_X12_isFar) dX12_isFar_0 rfl ?_
  refine x_ldc2 (M := M_X12_isFar) dX12_isFar_1 t_3136 ?_
  refine x_ldc2 (M := M_X12_isFar) dX12_isFar_4 t_2937 ?_
  refine x_norm (M := M_X12_isFar) (st' := [.long (Int64.ofInt 1000000000), .long (Int64.ofInt (-1000000000)), .long (a2.toInt64)]) rfl (vj_cons (by decide +kernel : (1000000000 : Int64) = (Int64.ofInt 1000000000)) (vj_cons (by decide +kernel : (-1000000000 : Int64) = (Int64.ofInt (-1000000000))) rfl)) rfl rfl rfl ?_
  refine x_callSR (M := M_X12_isFar) (M' := M_X12_in) rfl rfl dX12_isFar_7 m_X12_in t_2818 t_2819 (q5950 hl c0 c1) rfl rfl (Nat.le_of_ble_eq_true rfl) (Nat.le_of_ble_eq_true rfl) (Nat.le_of_ble_eq_true rfl) (Nat.le_of_ble_eq_true rfl) ?_
  exact x_zret (M := M_X12_isFar) dX12_isFar_10 rfl (by decide) ⟨rfl, rfl⟩ (Nat.le_of_ble_eq_true rfl) (Nat.le_of_ble_eq_true rfl)
set_option maxRecDepth 10000 in
theorem q5956 {l : Launch} {E : EE} (hl : l.stackTraces = false) {h : HP} {a0 : Int32} {a1 : Int32} {a2 : Int32} {a3 : Int32} {a4 : Int32} {dg : Int32} (c0 : ¬ (a0.toInt < 0)) (c1 : ¬ (2 < a0.toInt)) (c2 : ¬ (a1.toInt < (-1000000000))) (c3 : ¬ (a2.toInt < (-1000000000))) (c4 : 1000000000 < a3.toInt) (c5 : ¬ (1000000000 < a1.toInt)) (c6 : 1000000000 < a2.toInt) (o5946 : ob h 277 = some (.inr (15, (RB dg)))) : en_C l E M_X12_find 2 0 0 [.ref 277, .int a0, .int a1, .int a2, .int a3, .int a4] h (pF (some (.int (Int32.ofInt 0))) [277] h (fun h' => ob h' 277 = some (.inr (15, ((RB dg).set 0 (.int (Int32.ofInt 1))))) ∧ True)) := by
  refine en_mk m_X12_find rfl hl (Nat.le_of_ble_eq_true rfl) ?_
  refine x_aload_n (M := M_X12_find) dX12_find_0 rfl ?_
  refine x_iconst (M := M_X12_find) dX12_find_1 ?_
  refine y_put (M := M_X12_find) (ci := 15) (C := RX12) (T := TX12) (N := 135) (ty := tyX12) cl15 dX12_find_2 o5946 0 (by decide) t_2391 (Or.inl rfl) (Nat.le_of_ble_eq_true rfl) rfl (fun h5947 w5948 f5949 => ?_)
  refine x_iload_n (M := M_X12_find) dX12_find_5 rfl ?_
  refine x_i2l (M := M_X12_find) dX12_find_6 ?_
  refine x_lconst (M := M_X12_find) dX12_find_7 ?_
  refine x_ldc2 (M := M_X12_find) dX12_find_8 t_3091 ?_
  refine x_norm (M := M_X12_find) (st' := [.long (Int64.ofInt 2), .long (Int64.ofInt 0), .long (a0.toInt64)]) rfl (vj_cons (by decide +kernel : (2 : Int64) = (Int64.ofInt 2)) (vj_cons (by decide +kernel : (Int64.ofNat ((0 : Fin 2) : Nat)) = (Int64.ofInt 0)) rfl)) rfl rfl rfl ?_
  refine x_callSR (M := M_X12_find) (M' := M_X12_in) rfl rfl dX12_find_11 m_X12_in t_2818 t_2819 (q5833 hl c0 c1) rfl rfl (Nat.le_of_ble_eq_true rfl) (Nat.le_of_ble_eq_true rfl) (Nat.le_of_ble_eq_true rfl) (Nat.le_of_ble_eq_true rfl) ?_
  refine x_if_eq (M := M_X12_find) (tgt := 67) dX12_find_14 (by decide) (fun q => absurd q (by decide +kernel)) (fun _ => ?_)
  refine x_iload_n (M := M_X12_find) dX12_find_17 rfl ?_
  refine x_i2l (M := M_X12_find) dX12_find_18 ?_
  refine x_callSR (M := M_X12_find) (M' := M_X12_isFar) rfl rfl dX12_find_19 m_X12_isFar t_3133 t_3134 (q5646 hl c2 c5) rfl rfl (Nat.le_of_ble_eq_true rfl) (Nat.le_of_ble_eq_true rfl) (Nat.le_of_ble_eq_true rfl) (Nat.le_of_ble_eq_true rfl) ?_
  refine x_if_eq (M := M_X12_find) (tgt := 67) dX12_find_22 (by decide) (fun q => absurd q (by decide +kernel)) (fun _ => ?_)
  refine x_iload_n (M := M_X12_find) dX12_find_25 rfl ?_
  refine x_i2l (M := M_X12_find) dX12_find_26 ?_
  refine x_callSR (M := M_X12_find) (M' := M_X12_isFar) rfl rfl dX12_find_27 m_X12_isFar t_3133 t_3134 (q5951 hl c3 c6) rfl rfl (Nat.le_of_ble_eq_true rfl) (Nat.le_of_ble_eq_true rfl) (Nat.le_of_ble_eq_true rfl) (Nat.le_of_ble_eq_true rfl) ?_
  refine x_if_eq (M := M_X12_find) (tgt := 67) dX12_find_30 (by decide) (fun _ => ?_) (fun q => absurd q (by decide +kernel))
  refine x_iconst (M := M_X12_find) dX12_find_67 ?_
  refine x_istore (M := M_X12_find) dX12_find_68 (Nat.le_of_ble_eq_true rfl) rfl ?_
  refine x_aload_n (M := M_X12_find) dX12_find_70 rfl ?_
  refine x_iload (M := M_X12_find) dX12_find_71 rfl ?_
  refine x_if_ne (M := M_X12_find) (tgt := 80) dX12_find_73 (by decide) (fun q => absurd q (by decide +kernel)) (fun _ => ?_)
  refine x_iconst (M := M_X12_find) dX12_find_76 ?_
  refine x_goto (M := M_X12_find) (tgt := 81) dX12_find_77 (by decide) ?_
  refine x_iconst (M := M_X12_find) dX12_find_81 ?_
  refine y_callVR (M := M_X12_find) (M' := M_X12_fails) rfl rfl dX12_find_82 m_X12_fails t_2805 t_2807 s_157 (q22 hl w5948) rfl rfl w5948 rfl (Nat.le_of_ble_eq_true rfl) (Nat.le_of_ble_eq_true rfl) (Nat.le_of_ble_eq_true rfl) (Nat.le_of_ble_eq_true rfl) (fun h5952 f5953 w5954 => ?_)
  obtain ⟨o5955, -⟩ := w5954
  refine x_if_eq (M := M_X12_find) (tgt := 90) dX12_find_85 (by decide) (fun q => absurd q (by decide +kernel)) (fun _ => ?_)
  refine x_iconst (M := M_X12_find) dX12_find_88 ?_
  exact x_iret (M := M_X12_find) dX12_find_89 rfl ⟨rfl, (fr_tr f5953 (by decide) (fr_tr f5949 (by decide) fr_rf)), ⟨o5955, trivial⟩⟩ (Nat.le_of_ble_eq_true rfl) (Nat.le_of_ble_eq_true rfl)
set_option maxRecDepth 10000 in
theorem lc23_6 {l : Launch} {E : EE} (hl : l.stackTraces = false) (nm : String) {xs : Nat → Int32} (hx : E.2.2.2.2 0 = some (7, xs)) {h : HP} {a0 : Int32} {a1 : Int32} {a2 : Int32} {a3 : Int32} {a4 : Int32} {dg : Int32} (e2 : xs 2 = a0) (e3 : xs 3 = a1) (e4 : xs 4 = a2) (e5 : xs 5 = a3) (e6 : xs 6 = a4) (c0 : ¬ (a0.toInt < 0)) (c1 : ¬ (2 < a0.toInt)) (c2 : ¬ (a1.toInt < (-1000000000))) (c3 : ¬ (a2.toInt < (-1000000000))) (c4 : 1000000000 < a3.toInt) (c5 : ¬ (1000000000 < a1.toInt)) (c6 : 1000000000 < a2.toInt) (o5942 : ob h 32 = some (.inr (14, [.ref 33, .ref 162, .ref 166, .int (0 : Int32), .int (0 : Int32), .int (0 : Int32), .ref 167, .ref 170, .ref 173, .ref 177, .ref 193, .ref 208, .ref 222, .ref 238, .ref 252, .ref 274, .ref 275, .ref 276, .int (0 : Int32)]))) (o5957 : ob h 277 = some (.inr (15, (RB dg)))) : XX l E (M_law nm) 1312 342628 8074320 (fun o _ => o = .inl (some (.int 1))) 1697 [some (.ref 0), some (.ref 32), some (.ref 277), some (.ref 359), some (.int (Int32.ofInt 1)), none, none, none] [] h 328 2463747 := by
  refine x_aload_n (M := (M_law nm)) dL_law_1697 rfl ?_
  refine x_aload_n (M := (M_law nm)) dL_law_1698 rfl ?_
  refine x_iload (M := (M_law nm)) dL_law_1699 rfl ?_
  refine x_iconst (M := (M_law nm)) dL_law_1701 ?_
  refine x_iadd (M := (M_law nm)) dL_law_1702 ?_
  refine x_sald (M := (M_law nm)) dL_law_1703 (by decide) hx (vp_inD (by decide +kernel)) ?_
  refine x_top (M := (M_law nm)) (y := a0) ((congrArg xs (by decide +kernel : ((Int32.ofInt 1) + (Int32.ofInt 1)).toNatClampNeg = 2)).trans e2) ?_
  refine x_aload_n (M := (M_law nm)) dL_law_1704 rfl ?_
  refine x_iload (M := (M_law nm)) dL_law_1705 rfl ?_
  refine x_iconst (M := (M_law nm)) dL_law_1707 ?_
  refine x_iadd (M := (M_law nm)) dL_law_1708 ?_
  refine x_sald (M := (M_law nm)) dL_law_1709 (by decide) hx (vp_inD (by decide +kernel)) ?_
  refine x_top (M := (M_law nm)) (y := a1) ((congrArg xs (by decide +kernel : ((Int32.ofInt 1) + (Int32.ofInt 2)).toNatClampNeg = 3)).trans e3) ?_
  refine x_aload_n (M := (M_law nm)) dL_law_1710 rfl ?_
  refine x_iload (M := (M_law nm)) dL_law_1711 rfl ?_
  refine x_iconst (M := (M_law nm)) dL_law_1713 ?_
  refine x_iadd (M := (M_law nm)) dL_law_1714 ?_
  refine x_sald (M := (M_law nm)) dL_law_1715 (by decide) hx (vp_inD (by decide +kernel)) ?_
  refine x_top (M := (M_law nm)) (y := a2) ((congrArg xs (by decide +kernel : ((Int32.ofInt 1) + (Int32.ofInt 3)).toNatClampNeg = 4)).trans e4) ?_
  refine x_aload_n (M := (M_law nm)) dL_law_1716 rfl ?_
  refine x_iload (M := (M_law nm)) dL_law_1717 rfl ?_
  refine x_iconst (M := (M_law nm)) dL_law_1719 ?_
  refine x_iadd (M := (M_law nm)) dL_law_1720 ?_
  refine x_sald (M := (M_law nm)) dL_law_1721 (by decide) hx (vp_inD (by decide +kernel)) ?_
  refine x_top (M := (M_law nm)) (y := a3) ((congrArg xs (by decide +kernel : ((Int32.ofInt 1) + (Int32.ofInt 4)).toNatClampNeg = 5)).trans e5) ?_
  refine x_aload_n (M := (M_law nm)) dL_law_1722 rfl ?_
  refine x_iload (M := (M_law nm)) dL_law_1723 rfl ?_
  refine x_iconst (M := (M_law nm)) dL_law_1725 ?_
  refine x_iadd (M := (M_law nm)) dL_law_1726 ?_
  refine x_sald (M := (M_law nm)) dL_law_1727 (by decide) hx (vp_inD (by decide +kernel)) ?_
  refine x_top (M := (M_law nm)) (y := a4) ((congrArg xs (by decide +kernel : ((Int32.ofInt 1) + (Int32.ofInt 5)).toNatClampNeg = 6)).trans e6) ?_
  refine x_aload_n (M := (M_law nm)) dL_law_1728 rfl ?_
  refine y_callSW (M := (M_law nm)) (M' := M_L_find) rfl rfl dL_law_1729 m_L_find t_2242 t_2243 (q5906 hl c0 c1 c2 c3 c4 o5942) rfl rfl (Nat.le_of_ble_eq_true rfl) (Nat.le_of_ble_eq_true rfl) (Nat.le_of_ble_eq_true rfl) (Nat.le_of_ble_eq_true rfl) (fun h5943 f5944 w5945 => ?_)
  refine x_istore (M := (M_law nm)) dL_law_1732 (Nat.le_of_ble_eq_true rfl) rfl ?_
  refine x_aload_n (M := (M_law nm)) dL_law_1734 rfl ?_
  refine x_aload_n (M := (M_law nm)) dL_law_1735 rfl ?_
  refine x_iload (M := (M_law nm)) dL_law_1736 rfl ?_
  refine x_iconst (M := (M_law nm)) dL_law_1738 ?_
  refine x_iadd (M := (M_law nm)) dL_law_1739 ?_
  refine x_sald (M := (M_law nm)) dL_law_1740 (by decide) hx (vp_inD (by decide +kernel)) ?_
  refine x_top (M := (M_law nm)) (y := a0) ((congrArg xs (by decide +kernel : ((Int32.ofInt 1) + (Int32.ofInt 1)).toNatClampNeg = 2)).trans e2) ?_
  refine x_aload_n (M := (M_law nm)) dL_law_1741 rfl ?_
  refine x_iload (M := (M_law nm)) dL_law_1742 rfl ?_
  refine x_iconst (M := (M_law nm)) dL_law_1744 ?_
  refine x_iadd (M := (M_law nm)) dL_law_1745 ?_
  refine x_sald (M := (M_law nm)) dL_law_1746 (by decide) hx (vp_inD (by decide +kernel)) ?_
  refine x_top (M := (M_law nm)) (y := a1) ((congrArg xs (by decide +kernel : ((Int32.ofInt 1) + (Int32.ofInt 2)).toNatClampNeg = 3)).trans e3) ?_
  refine x_aload_n (M := (M_law nm)) dL_law_1747 rfl ?_
  refine x_iload (M := (M_law nm)) dL_law_1748 rfl ?_
  refine x_iconst (M := (M_law nm)) dL_law_1750 ?_
  refine x_iadd (M := (M_law nm)) dL_law_1751 ?_
  refine x_sald (M := (M_law nm)) dL_law_1752 (by decide) hx (vp_inD (by decide +kernel)) ?_
  refine x_top (M := (M_law nm)) (y := a2) ((congrArg xs (by decide +kernel : ((Int32.ofInt 1) + (Int32.ofInt 3)).toNatClampNeg = 4)).trans e4) ?_
  refine x_aload_n (M := (M_law nm)) dL_law_1753 rfl ?_
  refine x_iload (M := (M_law nm)) dL_law_1754 rfl ?_
  refine x_iconst (M := (M_law nm)) dL_law_1756 ?_
  refine x_iadd (M := (M_law nm)) dL_law_1757 ?_
  refine x_sald (M := (M_law nm)) dL_law_1758 (by decide) hx (vp_inD (by decide +kernel)) ?_
  refine x_top (M := (M_law nm)) (y := a3) ((congrArg xs (by decide +kernel : ((Int32.ofInt 1) + (Int32.ofInt 4)).toNatClampNeg = 5)).trans e5) ?_
  refine x_aload_n (M := (M_law nm)) dL_law_1759 rfl ?_
  refine x_iload (M := (M_law nm)) dL_law_1760 rfl ?_
  refine x_iconst (M := (M_law nm)) dL_law_1762 ?_
  refine x_iadd (M := (M_law nm)) dL_law_1763 ?_
  refine x_sald (M := (M_law nm)) dL_law_1764 (by decide) hx (vp_inD (by decide +kernel)) ?_
  refine x_top (M := (M_law nm)) (y := a4) ((congrArg xs (by decide +kernel : ((Int32.ofInt 1) + (Int32.ofInt 5)).toNatClampNeg = 6)).trans e6) ?_
  have o5958 := (f5944 277 _ (by decide) o5957)
  refine y_callVR (M := (M_law nm)) (M' := M_X12_find) rfl rfl dL_law_1765 m_X12_find t_3129 t_3130 t_3131 (q5956 hl c0 c1 c2 c3 c4 c5 c6 o5958) rfl rfl o5958 rfl (Nat.le_of_ble_eq_true rfl) (Nat.le_of_ble_eq_true rfl) (Nat.le_of_ble_eq_true rfl) (Nat.le_of_ble_eq_true rfl) (fun h5959 f5960 w5961 => ?_)
  obtain ⟨o5962, -⟩ := w5961
  refine x_istore (M := (M_law nm)) dL_law_1768 (Nat.le_of_ble_eq_true rfl) rfl ?_
  refine x_aload_n (M := (M_law nm)) dL_law_1770 rfl ?_
  refine x_callVR (M := (M_law nm)) (M' := M_X12_thrown) rfl rfl dL_law_1771 m_X12_thrown t_2797 t_2798 t_2799 (q35 hl o5962) rfl rfl o5962 rfl (Nat.le_of_ble_eq_true rfl) (Nat.le_of_ble_eq_true rfl) (Nat.le_of_ble_eq_true rfl) (Nat.le_of_ble_eq_true rfl) ?_
  refine x_iload (M := (M_law nm)) dL_law_1774 rfl ?_
  refine x_icmp_eq (M := (M_law nm)) (tgt := 1781) dL_law_1776 (by decide) (fun _ => ?_) (fun q => absurd q (by decide +kernel))
  refine x_iload (M := (M_law nm)) dL_law_1781 rfl ?_
  refine x_if_ne (M := (M_law nm)) (tgt := 1798) dL_law_1783 (by decide) (fun _ => ?_) (fun q => absurd q (by decide +kernel))
  refine x_goto (M := (M_law nm)) (tgt := 2449) dL_law_1798 (by decide) ?_
  refine x_iinc (M := (M_law nm)) dL_law_2449 rfl (Nat.le_of_ble_eq_true rfl) rfl ?_
  refine x_lvs (M := (M_law nm)) (lv' := [some (.ref 0), some (.ref 32), some (.ref 277), some (.ref 359), some (.int (Int32.ofInt 7)), some (.int (Int32.ofInt 1)), some (.int (Int32.ofInt 0)), none]) (by rw [(by decide +kernel : (Int32.ofInt 1) + Int32.ofInt 6 = (Int32.ofInt 7))] <;> rfl) ?_
  refine x_goto (M := (M_law nm)) (tgt := 33) dL_law_2452 (by decide) ?_
  refine x_iload (M := (M_law nm)) dL_law_33 rfl ?_
  refine x_aload_n (M := (M_law nm)) dL_law_35 rfl ?_
  refine x_slen (M := (M_law nm)) dL_law_36 (by decide) hx ?_
  refine x_bipush (M := (M_law nm)) dL_law_37 ?_
  refine x_isub (M := (M_law nm)) dL_law_39 ?_
  refine x_icmp_gt (M := (M_law nm)) (tgt := 2455) dL_law_40 (by decide) (fun _ => ?_) (fun q => absurd q (by decide +kernel))
  refine x_iconst (M := (M_law nm)) dL_law_2455 ?_
  exact x_zret (M := (M_law nm)) dL_law_2456 rfl (by decide) rfl (Nat.le_of_ble_eq_true rfl) (Nat.le_of_ble_eq_true rfl)
set_option maxRecDepth 10000 in
theorem q5971 {l : Launch} {E : EE} (hl : l.stackTraces = false) {h : HP} {a2 : Int32} (c0 : ¬ (a2.toInt < (-1000000000))) (c1 : ¬ (1000000000 < a2.toInt)) : en_C l E M_X12_in 0 0 0 [.long (a2.toInt64), .long (Int64.ofInt (-1000000000)), .long (Int64.ofInt 1000000000)] h (pR (some (.int (Int32.ofInt 1))) h) := by
  refine en_mk m_X12_in rfl hl (Nat.le_of_ble_eq_true rfl) ?_
  refine x_lload_n (M := M_X12_in) dX12_in_0 rfl ?_
  refine x_lload_n (M := M_X12_in) dX12_in_1 rfl ?_
  refine x_lcmp (M := M_X12_in) dX12_in_2 ?_
  refine x_if_lt (M := M_X12_in) (tgt := 17) dX12_in_3 (by decide) (fun q => absurd ((bc_lt (i_i2l rfl) (by decide +kernel)).mp q) (by omega : ¬ (a2.toInt < (-1000000000)))) (fun _ => ?_)
  refine x_lload_n (M := M_X12_in) dX12_in_6 rfl ?_
  refine x_lload (M := M_X12_in) dX12_in_7 rfl ?_
  refine x_lcmp (M := M_X12_in) dX12_in_9 ?_
  refine x_if_gt (M := M_X12_in) (tgt := 17) dX12_in_10 (by decide) (fun q => absurd ((bc_gt (i_i2l rfl) (by decide +kernel)).mp q) (by omega : ¬ (1000000000 < a2.toInt))) (fun _ => ?_)
  refine x_iconst (M := M_X12_in) dX12_in_13 ?_
  refine x_goto (M := M_X12_in) (tgt := 18) dX12_in_14 (by decide) ?_
  exact x_zret (M := M_X12_in) dX12_in_18 rfl (by decide) ⟨rfl, rfl⟩ (Nat.le_of_ble_eq_true rfl) (Nat.le_of_ble_eq_true rfl)
set_option maxRecDepth 10000 in
theorem q5972 {l : Launch} {E : EE} (hl : l.stackTraces = false) {h : HP} {a2 : Int32} (c0 : ¬ (a2.toInt < (-1000000000))) (c1 : ¬ (1000000000 < a2.toInt)) : en_C l E M_X12_isFar 1 0 0 [.long (a2.toInt64)] h (pR (some (.int (Int32.ofInt 1))) h) := by
  refine en_mk m_X12_isFar rfl hl (Nat.le_of_ble_eq_true rfl) ?_
  refine x_lload_n (M := M_X12_isFar) dX12_isFar_0 rfl ?_
  refine x_ldc2 (M := M_X12_isFar) dX12_isFar_1 t_3136 ?_
  refine x_ldc2 (M := M_X12_isFar) dX12_isFar_4 t_2937 ?_
  refine x_norm (M := M_X12_isFar) (st' := [.long (Int64.ofInt 1000000000), .long (Int64.ofInt (-1000000000)), .long (a2.toInt64)]) rfl (vj_cons (by decide +kernel : (1000000000 : Int64) = (Int64.ofInt 1000000000)) (vj_cons (by decide +kernel : (-1000000000 : Int64) = (Int64.ofInt (-1000000000))) rfl)) rfl rfl rfl ?_
  refine x_callSR (M := M_X12_isFar) (M' := M_X12_in) rfl rfl dX12_isFar_7 m_X12_in t_2818 t_2819 (q5971 hl c0 c1) rfl rfl (Nat.le_of_ble_eq_true rfl) (Nat.le_of_ble_eq_true rfl) (Nat.le_of_ble_eq_true rfl) (Nat.le_of_ble_eq_true rfl) ?_
  exact x_zret (M := M_X12_isFar) dX12_isFar_10 rfl (by decide) ⟨rfl, rfl⟩ (Nat.le_of_ble_eq_true rfl) (Nat.le_of_ble_eq_true rfl)
set_option maxRecDepth 10000 in
theorem q5973 {l : Launch} {E : EE} (hl : l.stackTraces = false) {h : HP} {a3 : Int32} (c0 : 1000000000 < a3.toInt) : en_C l E M_X12_in 0 0 0 [.long (a3.toInt64), .long (Int64.ofInt (-1000000000)), .long (Int64.ofInt 1000000000)] h (pR (some (.int (Int32.ofInt 0))) h) := by
  refine en_mk m_X12_in rfl hl (Nat.le_of_ble_eq_true rfl) ?_
  refine x_lload_n (M := M_X12_in) dX12_in_0 rfl ?_
  refine x_lload_n (M := M_X12_in) dX12_in_1 rfl ?_
  refine x_lcmp (M := M_X12_in) dX12_in_2 ?_
  refine x_if_lt (M := M_X12_in) (tgt := 17) dX12_in_3 (by decide) (fun q => absurd ((bc_lt (i_i2l rfl) (by decide +kernel)).mp q) (by omega : ¬ (a3.toInt < (-1000000000)))) (fun _ => ?_)
  refine x_lload_n (M := M_X12_in) dX12_in_6 rfl ?_
  refine x_lload (M := M_X12_in) dX12_in_7 rfl ?_
  refine x_lcmp (M := M_X12_in) dX12_in_9 ?_
  refine x_if_gt (M := M_X12_in) (tgt := 17) dX12_in_10 (by decide) (fun _ => ?_) (fun q => absurd ((bc_gt (i_i2l rfl) (by decide +kernel)).mpr (by omega : (1000000000 < a3.toInt : Prop))) q)
  refine x_iconst (M := M_X12_in) dX12_in_17 ?_
  exact x_zret (M := M_X12_in) dX12_in_18 rfl (by decide) ⟨rfl, rfl⟩ (Nat.le_of_ble_eq_true rfl) (Nat.le_of_ble_eq_true rfl)
set_option maxRecDepth 10000 in
theorem q5974 {l : Launch} {E : EE} (hl : l.stackTraces = false) {h : HP} {a3 : Int32} (c0 : 1000000000 < a3.toInt) : en_C l E M_X12_isFar 1 0 0 [.long (a3.toInt64)] h (pR (some (.int (Int32.ofInt 0))) h) := by
  refine en_mk m_X12_isFar rfl hl (Nat.le_of_ble_eq_true rfl) ?_
  refine x_lload_n (M := M_X12_isFar) dX12_isFar_0 rfl ?_
  refine x_ldc2 (M := M_X12_isFar) dX12_isFar_1 t_3136 ?_
  refine x_ldc2 (M := M_X12_isFar) dX12_isFar_4 t_2937 ?_
  refine x_norm (M := M_X12_isFar) (st' := [.long (Int64.ofInt 1000000000), .long (Int64.ofInt (-1000000000)), .long (a3.toInt64)]) rfl (vj_cons (by decide +kernel : (1000000000 : Int64) = (Int64.ofInt 1000000000)) (vj_cons (by decide +kernel : (-1000000000 : Int64) = (Int64.ofInt (-1000000000))) rfl)) rfl rfl rfl ?_
  refine x_callSR (M := M_X12_isFar) (M' := M_X12_in) rfl rfl dX12_isFar_7 m_X12_in t_2818 t_2819 (q5973 hl c0) rfl rfl (Nat.le_of_ble_eq_true rfl) (Nat.le_of_ble_eq_true rfl) (Nat.le_of_ble_eq_true rfl) (Nat.le_of_ble_eq_true rfl) ?_
  exact x_zret (M := M_X12_isFar) dX12_isFar_10 rfl (by decide) ⟨rfl, rfl⟩ (Nat.le_of_ble_eq_true rfl) (Nat.le_of_ble_eq_true rfl)
set_option maxRecDepth 10000 in
theorem q5979 {l : Launch} {E : EE} (hl : l.stackTraces = false) {h : HP} {a0 : Int32} {a1 : Int32} {a2 : Int32} {a3 : Int32} {a4 : Int32} {dg : Int32} (c0 : ¬ (a0.toInt < 0)) (c1 : ¬ (2 < a0.toInt)) (c2 : ¬ (a1.toInt < (-1000000000))) (c3 : ¬ (a2.toInt < (-1000000000))) (c4 : 1000000000 < a3.toInt) (c5 : ¬ (1000000000 < a1.toInt)) (c6 : ¬ (1000000000 < a2.toInt)) (o5967 : ob h 277 = some (.inr (15, (RB dg)))) : en_C l E M_X12_find 2 0 0 [.ref 277, .int a0, .int a1, .int a2, .int a3, .int a4] h (pF (some (.int (Int32.ofInt 0))) [277] h (fun h' => ob h' 277 = some (.inr (15, ((RB dg).set 0 (.int (Int32.ofInt 1))))) ∧ True)) := by
  refine en_mk m_X12_find rfl hl (Nat.le_of_ble_eq_true rfl) ?_
  refine x_aload_n (M := M_X12_find) dX12_find_0 rfl ?_
  refine x_iconst (M := M_X12_find) dX12_find_1 ?_
  refine y_put (M := M_X12_find) (ci := 15) (C := RX12) (T := TX12) (N := 135) (ty := tyX12) cl15 dX12_find_2 o5967 0 (by decide) t_2391 (Or.inl rfl) (Nat.le_of_ble_eq_true rfl) rfl (fun h5968 w5969 f5970 => ?_)
  refine x_iload_n (M := M_X12_find) dX12_find_5 rfl ?_
  refine x_i2l (M := M_X12_find) dX12_find_6 ?_
  refine x_lconst (M := M_X12_find) dX12_find_7 ?_
  refine x_ldc2 (M := M_X12_find) dX12_find_8 t_3091 ?_
  refine x_norm (M := M_X12_find) (st' := [.long (Int64.ofInt 2), .long (Int64.ofInt 0), .long (a0.toInt64)]) rfl (vj_cons (by decide +kernel : (2 : Int64) = (Int64.ofInt 2)) (vj_cons (by decide +kernel : (Int64.ofNat ((0 : Fin 2) : Nat)) = (Int64.ofInt 0)) rfl)) rfl rfl rfl ?_
  refine x_callSR (M := M_X12_find) (M' := M_X12_in) rfl rfl dX12_find_11 m_X12_in t_2818 t_2819 (q5833 hl c0 c1) rfl rfl (Nat.le_of_ble_eq_true rfl) (Nat.le_of_ble_eq_true rfl) (Nat.le_of_ble_eq_true rfl) (Nat.le_of_ble_eq_true rfl) ?_
  refine x_if_eq (M := M_X12_find) (tgt := 67) dX12_find_14 (by decide) (fun q => absurd q (by decide +kernel)) (fun _ => ?_)
  refine x_iload_n (M := M_X12_find) dX12_find_17 rfl ?_
  refine x_i2l (M := M_X12_find) dX12_find_18 ?_
  refine x_callSR (M := M_X12_find) (M' := M_X12_isFar) rfl rfl dX12_find_19 m_X12_isFar t_3133 t_3134 (q5646 hl c2 c5) rfl rfl (Nat.le_of_ble_eq_true rfl) (Nat.le_of_ble_eq_true rfl) (Nat.le_of_ble_eq_true rfl) (Nat.le_of_ble_eq_true rfl) ?_
  refine x_if_eq (M := M_X12_find) (tgt := 67) dX12_find_22 (by decide) (fun q => absurd q (by decide +kernel)) (fun _ => ?_)
  refine x_iload_n (M := M_X12_find) dX12_find_25 rfl ?_
  refine x_i2l (M := M_X12_find) dX12_find_26 ?_
  refine x_callSR (M := M_X12_find) (M' := M_X12_isFar) rfl rfl dX12_find_27 m_X12_isFar t_3133 t_3134 (q5972 hl c3 c6) rfl rfl (Nat.le_of_ble_eq_true rfl) (Nat.le_of_ble_eq_true rfl) (Nat.le_of_ble_eq_true rfl) (Nat.le_of_ble_eq_true rfl) ?_
  refine x_if_eq (M := M_X12_find) (tgt := 67) dX12_find_30 (by decide) (fun q => absurd q (by decide +kernel)) (fun _ => ?_)
  refine x_iload (M := M_X12_find) dX12_find_33 rfl ?_
  refine x_i2l (M := M_X12_find) dX12_find_35 ?_
  refine x_callSR (M := M_X12_find) (M' := M_X12_isFar) rfl rfl dX12_find_36 m_X12_isFar t_3133 t_3134 (q5974 hl c4) rfl rfl (Nat.le_of_ble_eq_true rfl) (Nat.le_of_ble_eq_true rfl) (Nat.le_of_ble_eq_true rfl) (Nat.le_of_ble_eq_true rfl) ?_
  refine x_if_eq (M := M_X12_find) (tgt := 67) dX12_find_39 (by decide) (fun _ => ?_) (fun q => absurd q (by decide +kernel))
  refine x_iconst (M := M_X12_find) dX12_find_67 ?_
  refine x_istore (M := M_X12_find) dX12_find_68 (Nat.le_of_ble_eq_true rfl) rfl ?_
  refine x_aload_n (M := M_X12_find) dX12_find_70 rfl ?_
  refine x_iload (M := M_X12_find) dX12_find_71 rfl ?_
  refine x_if_ne (M := M_X12_find) (tgt := 80) dX12_find_73 (by decide) (fun q => absurd q (by decide +kernel)) (fun _ => ?_)
  refine x_iconst (M := M_X12_find) dX12_find_76 ?_
  refine x_goto (M := M_X12_find) (tgt := 81) dX12_find_77 (by decide) ?_
  refine x_iconst (M := M_X12_find) dX12_find_81 ?_
  refine y_callVR (M := M_X12_find) (M' := M_X12_fails) rfl rfl dX12_find_82 m_X12_fails t_2805 t_2807 s_157 (q22 hl w5969) rfl rfl w5969 rfl (Nat.le_of_ble_eq_true rfl) (Nat.le_of_ble_eq_true rfl) (Nat.le_of_ble_eq_true rfl) (Nat.le_of_ble_eq_true rfl) (fun h5975 f5976 w5977 => ?_)
  obtain ⟨o5978, -⟩ := w5977
  refine x_if_eq (M := M_X12_find) (tgt := 90) dX12_find_85 (by decide) (fun q => absurd q (by decide +kernel)) (fun _ => ?_)
  refine x_iconst (M := M_X12_find) dX12_find_88 ?_
  exact x_iret (M := M_X12_find) dX12_find_89 rfl ⟨rfl, (fr_tr f5976 (by decide) (fr_tr f5970 (by decide) fr_rf)), ⟨o5978, trivial⟩⟩ (Nat.le_of_ble_eq_true rfl) (Nat.le_of_ble_eq_true rfl)
set_option maxRecDepth 10000 in
theorem lc23_7 {l : Launch} {E : EE} (hl : l.stackTraces = false) (nm : String) {xs : Nat → Int32} (hx : E.2.2.2.2 0 = some (7, xs)) {h : HP} {a0 : Int32} {a1 : Int32} {a2 : Int32} {a3 : Int32} {a4 : Int32} {dg : Int32} (e2 : xs 2 = a0) (e3 : xs 3 = a1) (e4 : xs 4 = a2) (e5 : xs 5 = a3) (e6 : xs 6 = a4) (c0 : ¬ (a0.toInt < 0)) (c1 : ¬ (2 < a0.toInt)) (c2 : ¬ (a1.toInt < (-1000000000))) (c3 : ¬ (a2.toInt < (-1000000000))) (c4 : 1000000000 < a3.toInt) (c5 : ¬ (1000000000 < a1.toInt)) (c6 : ¬ (1000000000 < a2.toInt)) (o5963 : ob h 32 = some (.inr (14, [.ref 33, .ref 162, .ref 166, .int (0 : Int32), .int (0 : Int32), .int (0 : Int32), .ref 167, .ref 170, .ref 173, .ref 177, .ref 193, .ref 208, .ref 222, .ref 238, .ref 252, .ref 274, .ref 275, .ref 276, .int (0 : Int32)]))) (o5980 : ob h 277 = some (.inr (15, (RB dg)))) : XX l E (M_law nm) 1312 342628 8074320 (fun o _ => o = .inl (some (.int 1))) 1697 [some (.ref 0), some (.ref 32), some (.ref 277), some (.ref 359), some (.int (Int32.ofInt 1)), none, none, none] [] h 328 2463747 := by
  refine x_aload_n (M := (M_law nm)) dL_law_1697 rfl ?_
  refine x_aload_n (M := (M_law nm)) dL_law_1698 rfl ?_
  refine x_iload (M := (M_law nm)) dL_law_1699 rfl ?_
  refine x_iconst (M := (M_law nm)) dL_law_1701 ?_
  refine x_iadd (M := (M_law nm)) dL_law_1702 ?_
  refine x_sald (M := (M_law nm)) dL_law_1703 (by decide) hx (vp_inD (by decide +kernel)) ?_
  refine x_top (M := (M_law nm)) (y := a0) ((congrArg xs (by decide +kernel : ((Int32.ofInt 1) + (Int32.ofInt 1)).toNatClampNeg = 2)).trans e2) ?_
  refine x_aload_n (M := (M_law nm)) dL_law_1704 rfl ?_
  refine x_iload (M := (M_law nm)) dL_law_1705 rfl ?_
  refine x_iconst (M := (M_law nm)) dL_law_1707 ?_
  refine x_iadd (M := (M_law nm)) dL_law_1708 ?_
  refine x_sald (M := (M_law nm)) dL_law_1709 (by decide) hx (vp_inD (by decide +kernel)) ?_
  refine x_top (M := (M_law nm)) (y := a1) ((congrArg xs (by decide +kernel : ((Int32.ofInt 1) + (Int32.ofInt 2)).toNatClampNeg = 3)).trans e3) ?_
  refine x_aload_n (M := (M_law nm)) dL_law_1710 rfl ?_
  refine x_iload (M := (M_law nm)) dL_law_1711 rfl ?_
  refine x_iconst (M := (M_law nm)) dL_law_1713 ?_
  refine x_iadd (M := (M_law nm)) dL_law_1714 ?_
  refine x_sald (M := (M_law nm)) dL_law_1715 (by decide) hx (vp_inD (by decide +kernel)) ?_
  refine x_top (M := (M_law nm)) (y := a2) ((congrArg xs (by decide +kernel : ((Int32.ofInt 1) + (Int32.ofInt 3)).toNatClampNeg = 4)).trans e4) ?_
  refine x_aload_n (M := (M_law nm)) dL_law_1716 rfl ?_
  refine x_iload (M := (M_law nm)) dL_law_1717 rfl ?_
  refine x_iconst (M := (M_law nm)) dL_law_1719 ?_
  refine x_iadd (M := (M_law nm)) dL_law_1720 ?_
  refine x_sald (M := (M_law nm)) dL_law_1721 (by decide) hx (vp_inD (by decide +kernel)) ?_
  refine x_top (M := (M_law nm)) (y := a3) ((congrArg xs (by decide +kernel : ((Int32.ofInt 1) + (Int32.ofInt 4)).toNatClampNeg = 5)).trans e5) ?_
  refine x_aload_n (M := (M_law nm)) dL_law_1722 rfl ?_
  refine x_iload (M := (M_law nm)) dL_law_1723 rfl ?_
  refine x_iconst (M := (M_law nm)) dL_law_1725 ?_
  refine x_iadd (M := (M_law nm)) dL_law_1726 ?_
  refine x_sald (M := (M_law nm)) dL_law_1727 (by decide) hx (vp_inD (by decide +kernel)) ?_
  refine x_top (M := (M_law nm)) (y := a4) ((congrArg xs (by decide +kernel : ((Int32.ofInt 1) + (Int32.ofInt 5)).toNatClampNeg = 6)).trans e6) ?_
  refine x_aload_n (M := (M_law nm)) dL_law_1728 rfl ?_
  refine y_callSW (M := (M_law nm)) (M' := M_L_find) rfl rfl dL_law_1729 m_L_find t_2242 t_2243 (q5906 hl c0 c1 c2 c3 c4 o5963) rfl rfl (Nat.le_of_ble_eq_true rfl) (Nat.le_of_ble_eq_true rfl) (Nat.le_of_ble_eq_true rfl) (Nat.le_of_ble_eq_true rfl) (fun h5964 f5965 w5966 => ?_)
  refine x_istore (M := (M_law nm)) dL_law_1732 (Nat.le_of_ble_eq_true rfl) rfl ?_
  refine x_aload_n (M := (M_law nm)) dL_law_1734 rfl ?_
  refine x_aload_n (M := (M_law nm)) dL_law_1735 rfl ?_
  refine x_iload (M := (M_law nm)) dL_law_1736 rfl ?_
  refine x_iconst (M := (M_law nm)) dL_law_1738 ?_
  refine x_iadd (M := (M_law nm)) dL_law_1739 ?_
  refine x_sald (M := (M_law nm)) dL_law_1740 (by decide) hx (vp_inD (by decide +kernel)) ?_
  refine x_top (M := (M_law nm)) (y := a0) ((congrArg xs (by decide +kernel : ((Int32.ofInt 1) + (Int32.ofInt 1)).toNatClampNeg = 2)).trans e2) ?_
  refine x_aload_n (M := (M_law nm)) dL_law_1741 rfl ?_
  refine x_iload (M := (M_law nm)) dL_law_1742 rfl ?_
  refine x_iconst (M := (M_law nm)) dL_law_1744 ?_
  refine x_iadd (M := (M_law nm)) dL_law_1745 ?_
  refine x_sald (M := (M_law nm)) dL_law_1746 (by decide) hx (vp_inD (by decide +kernel)) ?_
  refine x_top (M := (M_law nm)) (y := a1) ((congrArg xs (by decide +kernel : ((Int32.ofInt 1) + (Int32.ofInt 2)).toNatClampNeg = 3)).trans e3) ?_
  refine x_aload_n (M := (M_law nm)) dL_law_1747 rfl ?_
  refine x_iload (M := (M_law nm)) dL_law_1748 rfl ?_
  refine x_iconst (M := (M_law nm)) dL_law_1750 ?_
  refine x_iadd (M := (M_law nm)) dL_law_1751 ?_
  refine x_sald (M := (M_law nm)) dL_law_1752 (by decide) hx (vp_inD (by decide +kernel)) ?_
  refine x_top (M := (M_law nm)) (y := a2) ((congrArg xs (by decide +kernel : ((Int32.ofInt 1) + (Int32.ofInt 3)).toNatClampNeg = 4)).trans e4) ?_
  refine x_aload_n (M := (M_law nm)) dL_law_1753 rfl ?_
  refine x_iload (M := (M_law nm)) dL_law_1754 rfl ?_
  refine x_iconst (M := (M_law nm)) dL_law_1756 ?_
  refine x_iadd (M := (M_law nm)) dL_law_1757 ?_
  refine x_sald (M := (M_law nm)) dL_law_1758 (by decide) hx (vp_inD (by decide +kernel)) ?_
  refine x_top (M := (M_law nm)) (y := a3) ((congrArg xs (by decide +kernel : ((Int32.ofInt 1) + (Int32.ofInt 4)).toNatClampNeg = 5)).trans e5) ?_
  refine x_aload_n (M := (M_law nm)) dL_law_1759 rfl ?_
  refine x_iload (M := (M_law nm)) dL_law_1760 rfl ?_
  refine x_iconst (M := (M_law nm)) dL_law_1762 ?_
  refine x_iadd (M := (M_law nm)) dL_law_1763 ?_
  refine x_sald (M := (M_law nm)) dL_law_1764 (by decide) hx (vp_inD (by decide +kernel)) ?_
  refine x_top (M := (M_law nm)) (y := a4) ((congrArg xs (by decide +kernel : ((Int32.ofInt 1) + (Int32.ofInt 5)).toNatClampNeg = 6)).trans e6) ?_
  have o5981 := (f5965 277 _ (by decide) o5980)
  refine y_callVR (M := (M_law nm)) (M' := M_X12_find) rfl rfl dL_law_1765 m_X12_find t_3129 t_3130 t_3131 (q5979 hl c0 c1 c2 c3 c4 c5 c6 o5981) rfl rfl o5981 rfl (Nat.le_of_ble_eq_true rfl) (Nat.le_of_ble_eq_true rfl) (Nat.le_of_ble_eq_true rfl) (Nat.le_of_ble_eq_true rfl) (fun h5982 f5983 w5984 => ?_)
  obtain ⟨o5985, -⟩ := w5984
  refine x_istore (M := (M_law nm)) dL_law_1768 (Nat.le_of_ble_eq_true rfl) rfl ?_
  refine x_aload_n (M := (M_law nm)) dL_law_1770 rfl ?_
  refine x_callVR (M := (M_law nm)) (M' := M_X12_thrown) rfl rfl dL_law_1771 m_X12_thrown t_2797 t_2798 t_2799 (q35 hl o5985) rfl rfl o5985 rfl (Nat.le_of_ble_eq_true rfl) (Nat.le_of_ble_eq_true rfl) (Nat.le_of_ble_eq_true rfl) (Nat.le_of_ble_eq_true rfl) ?_
  refine x_iload (M := (M_law nm)) dL_law_1774 rfl ?_
  refine x_icmp_eq (M := (M_law nm)) (tgt := 1781) dL_law_1776 (by decide) (fun _ => ?_) (fun q => absurd q (by decide +kernel))
  refine x_iload (M := (M_law nm)) dL_law_1781 rfl ?_
  refine x_if_ne (M := (M_law nm)) (tgt := 1798) dL_law_1783 (by decide) (fun _ => ?_) (fun q => absurd q (by decide +kernel))
  refine x_goto (M := (M_law nm)) (tgt := 2449) dL_law_1798 (by decide) ?_
  refine x_iinc (M := (M_law nm)) dL_law_2449 rfl (Nat.le_of_ble_eq_true rfl) rfl ?_
  refine x_lvs (M := (M_law nm)) (lv' := [some (.ref 0), some (.ref 32), some (.ref 277), some (.ref 359), some (.int (Int32.ofInt 7)), some (.int (Int32.ofInt 1)), some (.int (Int32.ofInt 0)), none]) (by rw [(by decide +kernel : (Int32.ofInt 1) + Int32.ofInt 6 = (Int32.ofInt 7))] <;> rfl) ?_
  refine x_goto (M := (M_law nm)) (tgt := 33) dL_law_2452 (by decide) ?_
  refine x_iload (M := (M_law nm)) dL_law_33 rfl ?_
  refine x_aload_n (M := (M_law nm)) dL_law_35 rfl ?_
  refine x_slen (M := (M_law nm)) dL_law_36 (by decide) hx ?_
  refine x_bipush (M := (M_law nm)) dL_law_37 ?_
  refine x_isub (M := (M_law nm)) dL_law_39 ?_
  refine x_icmp_gt (M := (M_law nm)) (tgt := 2455) dL_law_40 (by decide) (fun _ => ?_) (fun q => absurd q (by decide +kernel))
  refine x_iconst (M := (M_law nm)) dL_law_2455 ?_
  exact x_zret (M := (M_law nm)) dL_law_2456 rfl (by decide) rfl (Nat.le_of_ble_eq_true rfl) (Nat.le_of_ble_eq_true rfl)
set_option maxRecDepth 10000 in
theorem q5987 {l : Launch} {E : EE} (hl : l.stackTraces = false) {h : HP} {a0 : Int32} {a1 : Int32} {a2 : Int32} {a3 : Int32} {a4 : Int32} (c0 : ¬ (a0.toInt < 0)) (c1 : ¬ (2 < a0.toInt)) (c2 : ¬ (a1.toInt < (-1000000000))) (c3 : ¬ (a2.toInt < (-1000000000))) (c4 : ¬ (1000000000 < a3.toInt)) (c5 : 1000000000 < a4.toInt) : en_C l E M_X11_find 6 1 6 [.ref 32, .int a0, .int a1, .int a2, .int a3, .int a4] h (pT "java/lang/IllegalArgumentException" [] h (fun _ => True)) := by
  refine en_mk m_X11_find rfl hl (Nat.le_of_ble_eq_true rfl) ?_
  refine x_iload_n (M := M_X11_find) dX11_find_0 rfl ?_
  refine x_if_lt (M := M_X11_find) (tgt := 51) dX11_find_1 (by decide) (fun q => absurd ((bi_lt rfl (by decide +kernel)).mp q) (by omega : ¬ (a0.toInt < 0))) (fun _ => ?_)
  refine x_iload_n (M := M_X11_find) dX11_find_4 rfl ?_
  refine x_iconst (M := M_X11_find) dX11_find_5 ?_
  refine x_icmp_gt (M := M_X11_find) (tgt := 51) dX11_find_6 (by decide) (fun q => absurd ((bi_lt (by decide +kernel) rfl).mp q) (by omega : ¬ (2 < a0.toInt))) (fun _ => ?_)
  refine x_iload_n (M := M_X11_find) dX11_find_9 rfl ?_
  refine x_ldcw (M := M_X11_find) dX11_find_10 t_2249 ?_
  refine x_icmp_lt (M := M_X11_find) (tgt := 51) dX11_find_13 (by decide) (fun q => absurd ((bi_lt rfl (by decide +kernel)).mp q) (by omega : ¬ (a1.toInt < (-1000000000)))) (fun _ => ?_)
  refine x_iload_n (M := M_X11_find) dX11_find_16 rfl ?_
  refine x_ldcw (M := M_X11_find) dX11_find_17 t_2249 ?_
  refine x_icmp_lt (M := M_X11_find) (tgt := 51) dX11_find_20 (by decide) (fun q => absurd ((bi_lt rfl (by decide +kernel)).mp q) (by omega : ¬ (a2.toInt < (-1000000000)))) (fun _ => ?_)
  refine x_iload (M := M_X11_find) dX11_find_23 rfl ?_
  refine x_ldcw (M := M_X11_find) dX11_find_25 t_2191 ?_
  refine x_icmp_gt (M := M_X11_find) (tgt := 51) dX11_find_28 (by decide) (fun q => absurd ((bi_lt (by decide +kernel) rfl).mp q) (by omega : ¬ (1000000000 < a3.toInt))) (fun _ => ?_)
  refine x_iload (M := M_X11_find) dX11_find_31 rfl ?_
  refine x_ldcw (M := M_X11_find) dX11_find_33 t_2191 ?_
  refine x_icmp_gt (M := M_X11_find) (tgt := 51) dX11_find_36 (by decide) (fun _ => ?_) (fun q => absurd ((bi_lt (by decide +kernel) rfl).mpr (by omega : (1000000000 < a4.toInt : Prop))) q)
  exact x_throw (M := M_X11_find) (names := en_nm) rfl dX11_find_51 dX11_find_54 dX11_find_55 dX11_find_58 (by decide +kernel) en_nm_ok (Or.inl t_721) (Or.inl t_19) (at_X11_IllegalArgumentException_118) (Nat.le_of_ble_eq_true rfl) (Nat.le_of_ble_eq_true rfl) (Nat.le_of_ble_eq_true rfl) (Nat.le_of_ble_eq_true rfl) (fun n9 => ⟨rfl, (fr_tr (fr_app (List.replicate n9 none)) (fun _ h => nomatch h) fr_rf), trivial⟩)
set_option maxRecDepth 10000 in
theorem q5992 {l : Launch} {E : EE} (hl : l.stackTraces = false) {h : HP} {a0 : Int32} {a1 : Int32} {a2 : Int32} {a3 : Int32} {a4 : Int32} (c0 : ¬ (a0.toInt < 0)) (c1 : ¬ (2 < a0.toInt)) (c2 : ¬ (a1.toInt < (-1000000000))) (c3 : ¬ (a2.toInt < (-1000000000))) (c4 : ¬ (1000000000 < a3.toInt)) (c5 : 1000000000 < a4.toInt) (o5988 : ob h 32 = some (.inr (14, [.ref 33, .ref 162, .ref 166, .int (0 : Int32), .int (0 : Int32), .int (0 : Int32), .ref 167, .ref 170, .ref 173, .ref 177, .ref 193, .ref 208, .ref 222, .ref 238, .ref 252, .ref 274, .ref 275, .ref 276, .int (0 : Int32)]))) : en_C l E M_L_find 7 1 6 [.ref 32, .int a0, .int a1, .int a2, .int a3, .int a4, .ref 359] h (pF (some (.int (Int32.ofInt 1))) [] h (fun _ => True)) := by
  refine en_mkW m_L_find rfl hl (Nat.le_of_ble_eq_true rfl) ?_
  refine x_aload (M := M_L_find) dL_find_0 rfl ?_
  refine x_iconst (M := M_L_find) dL_find_2 ?_
  refine x_aload_n (M := M_L_find) dL_find_3 rfl ?_
  refine x_iload_n (M := M_L_find) dL_find_4 rfl ?_
  refine x_iload_n (M := M_L_find) dL_find_5 rfl ?_
  refine x_iload_n (M := M_L_find) dL_find_6 rfl ?_
  refine x_iload (M := M_L_find) dL_find_7 rfl ?_
  refine x_iload (M := M_L_find) dL_find_9 rfl ?_
  refine y_callVHX (M := M_L_find) (M' := M_X11_find) (i9 := 7) (nx := 21) rfl dL_find_11 m_X11_find t_2245 t_2246 t_2247 o5988 rfl (q5987 hl c0 c1 c2 c3 c4 c5) rfl rfl (Nat.le_of_ble_eq_true rfl) (Nat.le_of_ble_eq_true rfl) (Nat.le_of_ble_eq_true rfl) (Nat.le_of_ble_eq_true rfl) (en_hdm (k0 := 7) [] [] rfl (fun _ h => nomatch h) (by decide +kernel) (by decide) t_716 n_723 dL_find_19) (by decide) rfl (fun h5989 f5990 w5991 => ?_)
  refine x_iconst (M := M_L_find) dL_find_21 ?_
  exact x_iret (M := M_L_find) dL_find_22 rfl ⟨rfl, (fr_tr f5990 (fun _ h => nomatch h) fr_rf), trivial⟩ (Nat.le_of_ble_eq_true rfl) (Nat.le_of_ble_eq_true rfl)
set_option maxRecDepth 10000 in
theorem q6013 {l : Launch} {E : EE} (hl : l.stackTraces = false) {h : HP} {a0 : Int32} {a1 : Int32} {a2 : Int32} {a3 : Int32} {a4 : Int32} {dg : Int32} (c0 : ¬ (a0.toInt < 0)) (c1 : ¬ (2 < a0.toInt)) (c2 : ¬ (a1.toInt < (-1000000000))) (c3 : ¬ (a2.toInt < (-1000000000))) (c4 : ¬ (1000000000 < a3.toInt)) (c5 : 1000000000 < a4.toInt) (c6 : 1000000000 < a1.toInt) (o6005 : ob h 277 = some (.inr (15, (RB dg)))) : en_C l E M_X12_find 2 0 0 [.ref 277, .int a0, .int a1, .int a2, .int a3, .int a4] h (pF (some (.int (Int32.ofInt 0))) [277] h (fun h' => ob h' 277 = some (.inr (15, ((RB dg).set 0 (.int (Int32.ofInt 1))))) ∧ True)) := by
  refine en_mk m_X12_find rfl hl (Nat.le_of_ble_eq_true rfl) ?_
  refine x_aload_n (M := M_X12_find) dX12_find_0 rfl ?_
  refine x_iconst (M := M_X12_find) dX12_find_1 ?_
  refine y_put (M := M_X12_find) (ci := 15) (C := RX12) (T := TX12) (N := 135) (ty := tyX12) cl15 dX12_find_2 o6005 0 (by decide) t_2391 (Or.inl rfl) (Nat.le_of_ble_eq_true rfl) rfl (fun h6006 w6007 f6008 => ?_)
  refine x_iload_n (M := M_X12_find) dX12_find_5 rfl ?_
  refine x_i2l (M := M_X12_find) dX12_find_6 ?_
  refine x_lconst (M := M_X12_find) dX12_find_7 ?_
  refine x_ldc2 (M := M_X12_find) dX12_find_8 t_3091 ?_
  refine x_norm (M := M_X12_find) (st' := [.long (Int64.ofInt 2), .long (Int64.ofInt 0), .long (a0.toInt64)]) rfl (vj_cons (by decide +kernel : (2 : Int64) = (Int64.ofInt 2)) (vj_cons (by decide +kernel : (Int64.ofNat ((0 : Fin 2) : Nat)) = (Int64.ofInt 0)) rfl)) rfl rfl rfl ?_
  refine x_callSR (M := M_X12_find) (M' := M_X12_in) rfl rfl dX12_find_11 m_X12_in t_2818 t_2819 (q5833 hl c0 c1) rfl rfl (Nat.le_of_ble_eq_true rfl) (Nat.le_of_ble_eq_true rfl) (Nat.le_of_ble_eq_true rfl) (Nat.le_of_ble_eq_true rfl) ?_
  refine x_if_eq (M := M_X12_find) (tgt := 67) dX12_find_14 (by decide) (fun q => absurd q (by decide +kernel)) (fun _ => ?_)
  refine x_iload_n (M := M_X12_find) dX12_find_17 rfl ?_
  refine x_i2l (M := M_X12_find) dX12_find_18 ?_
  refine x_callSR (M := M_X12_find) (M' := M_X12_isFar) rfl rfl dX12_find_19 m_X12_isFar t_3133 t_3134 (q5442 hl c2 c6) rfl rfl (Nat.le_of_ble_eq_true rfl) (Nat.le_of_ble_eq_true rfl) (Nat.le_of_ble_eq_true rfl) (Nat.le_of_ble_eq_true rfl) ?_
  refine x_if_eq (M := M_X12_find) (tgt := 67) dX12_find_22 (by decide) (fun _ => ?_) (fun q => absurd q (by decide +kernel))
  refine x_iconst (M := M_X12_find) dX12_find_67 ?_
  refine x_istore (M := M_X12_find) dX12_find_68 (Nat.le_of_ble_eq_true rfl) rfl ?_
  refine x_aload_n (M := M_X12_find) dX12_find_70 rfl ?_
  refine x_iload (M := M_X12_find) dX12_find_71 rfl ?_
  refine x_if_ne (M := M_X12_find) (tgt := 80) dX12_find_73 (by decide) (fun q => absurd q (by decide +kernel)) (fun _ => ?_)
  refine x_iconst (M := M_X12_find) dX12_find_76 ?_
  refine x_goto (M := M_X12_find) (tgt := 81) dX12_find_77 (by decide) ?_
  refine x_iconst (M := M_X12_find) dX12_find_81 ?_
  refine y_callVR (M := M_X12_find) (M' := M_X12_fails) rfl rfl dX12_find_82 m_X12_fails t_2805 t_2807 s_157 (q22 hl w6007) rfl rfl w6007 rfl (Nat.le_of_ble_eq_true rfl) (Nat.le_of_ble_eq_true rfl) (Nat.le_of_ble_eq_true rfl) (Nat.le_of_ble_eq_true rfl) (fun h6009 f6010 w6011 => ?_)
  obtain ⟨o6012, -⟩ := w6011
  refine x_if_eq (M := M_X12_find) (tgt := 90) dX12_find_85 (by decide) (fun q => absurd q (by decide +kernel)) (fun _ => ?_)
  refine x_iconst (M := M_X12_find) dX12_find_88 ?_
  exact x_iret (M := M_X12_find) dX12_find_89 rfl ⟨rfl, (fr_tr f6010 (by decide) (fr_tr f6008 (by decide) fr_rf)), ⟨o6012, trivial⟩⟩ (Nat.le_of_ble_eq_true rfl) (Nat.le_of_ble_eq_true rfl)
set_option maxRecDepth 10000 in
theorem lc23_8 {l : Launch} {E : EE} (hl : l.stackTraces = false) (nm : String) {xs : Nat → Int32} (hx : E.2.2.2.2 0 = some (7, xs)) {h : HP} {a0 : Int32} {a1 : Int32} {a2 : Int32} {a3 : Int32} {a4 : Int32} {dg : Int32} (e2 : xs 2 = a0) (e3 : xs 3 = a1) (e4 : xs 4 = a2) (e5 : xs 5 = a3) (e6 : xs 6 = a4) (c0 : ¬ (a0.toInt < 0)) (c1 : ¬ (2 < a0.toInt)) (c2 : ¬ (a1.toInt < (-1000000000))) (c3 : ¬ (a2.toInt < (-1000000000))) (c4 : ¬ (1000000000 < a3.toInt)) (c5 : 1000000000 < a4.toInt) (c6 : 1000000000 < a1.toInt) (o6001 : ob h 32 = some (.inr (14, [.ref 33, .ref 162, .ref 166, .int (0 : Int32), .int (0 : Int32), .int (0 : Int32), .ref 167, .ref 170, .ref 173, .ref 177, .ref 193, .ref 208, .ref 222, .ref 238, .ref 252, .ref 274, .ref 275, .ref 276, .int (0 : Int32)]))) (o6014 : ob h 277 = some (.inr (15, (RB dg)))) : XX l E (M_law nm) 1312 342628 8074320 (fun o _ => o = .inl (some (.int 1))) 1697 [some (.ref 0), some (.ref 32), some (.ref 277), some (.ref 359), some (.int (Int32.ofInt 1)), none, none, none] [] h 328 2463747 := by
  refine x_aload_n (M := (M_law nm)) dL_law_1697 rfl ?_
  refine x_aload_n (M := (M_law nm)) dL_law_1698 rfl ?_
  refine x_iload (M := (M_law nm)) dL_law_1699 rfl ?_
  refine x_iconst (M := (M_law nm)) dL_law_1701 ?_
  refine x_iadd (M := (M_law nm)) dL_law_1702 ?_
  refine x_sald (M := (M_law nm)) dL_law_1703 (by decide) hx (vp_inD (by decide +kernel)) ?_
  refine x_top (M := (M_law nm)) (y := a0) ((congrArg xs (by decide +kernel : ((Int32.ofInt 1) + (Int32.ofInt 1)).toNatClampNeg = 2)).trans e2) ?_
  refine x_aload_n (M := (M_law nm)) dL_law_1704 rfl ?_
  refine x_iload (M := (M_law nm)) dL_law_1705 rfl ?_
  refine x_iconst (M := (M_law nm)) dL_law_1707 ?_
  refine x_iadd (M := (M_law nm)) dL_law_1708 ?_
  refine x_sald (M := (M_law nm)) dL_law_1709 (by decide) hx (vp_inD (by decide +kernel)) ?_
  refine x_top (M := (M_law nm)) (y := a1) ((congrArg xs (by decide +kernel : ((Int32.ofInt 1) + (Int32.ofInt 2)).toNatClampNeg = 3)).trans e3) ?_
  refine x_aload_n (M := (M_law nm)) dL_law_1710 rfl ?_
  refine x_iload (M := (M_law nm)) dL_law_1711 rfl ?_
  refine x_iconst (M := (M_law nm)) dL_law_1713 ?_
  refine x_iadd (M := (M_law nm)) dL_law_1714 ?_
  refine x_sald (M := (M_law nm)) dL_law_1715 (by decide) hx (vp_inD (by decide +kernel)) ?_
  refine x_top (M := (M_law nm)) (y := a2) ((congrArg xs (by decide +kernel : ((Int32.ofInt 1) + (Int32.ofInt 3)).toNatClampNeg = 4)).trans e4) ?_
  refine x_aload_n (M := (M_law nm)) dL_law_1716 rfl ?_
  refine x_iload (M := (M_law nm)) dL_law_1717 rfl ?_
  refine x_iconst (M := (M_law nm)) dL_law_1719 ?_
  refine x_iadd (M := (M_law nm)) dL_law_1720 ?_
  refine x_sald (M := (M_law nm)) dL_law_1721 (by decide) hx (vp_inD (by decide +kernel)) ?_
  refine x_top (M := (M_law nm)) (y := a3) ((congrArg xs (by decide +kernel : ((Int32.ofInt 1) + (Int32.ofInt 4)).toNatClampNeg = 5)).trans e5) ?_
  refine x_aload_n (M := (M_law nm)) dL_law_1722 rfl ?_
  refine x_iload (M := (M_law nm)) dL_law_1723 rfl ?_
  refine x_iconst (M := (M_law nm)) dL_law_1725 ?_
  refine x_iadd (M := (M_law nm)) dL_law_1726 ?_
  refine x_sald (M := (M_law nm)) dL_law_1727 (by decide) hx (vp_inD (by decide +kernel)) ?_
  refine x_top (M := (M_law nm)) (y := a4) ((congrArg xs (by decide +kernel : ((Int32.ofInt 1) + (Int32.ofInt 5)).toNatClampNeg = 6)).trans e6) ?_
  refine x_aload_n (M := (M_law nm)) dL_law_1728 rfl ?_
  refine y_callSW (M := (M_law nm)) (M' := M_L_find) rfl rfl dL_law_1729 m_L_find t_2242 t_2243 (q5992 hl c0 c1 c2 c3 c4 c5 o6001) rfl rfl (Nat.le_of_ble_eq_true rfl) (Nat.le_of_ble_eq_true rfl) (Nat.le_of_ble_eq_true rfl) (Nat.le_of_ble_eq_true rfl) (fun h6002 f6003 w6004 => ?_)
  refine x_istore (M := (M_law nm)) dL_law_1732 (Nat.le_of_ble_eq_true rfl) rfl ?_
  refine x_aload_n (M := (M_law nm)) dL_law_1734 rfl ?_
  refine x_aload_n (M := (M_law nm)) dL_law_1735 rfl ?_
  refine x_iload (M := (M_law nm)) dL_law_1736 rfl ?_
  refine x_iconst (M := (M_law nm)) dL_law_1738 ?_
  refine x_iadd (M := (M_law nm)) dL_law_1739 ?_
  refine x_sald (M := (M_law nm)) dL_law_1740 (by decide) hx (vp_inD (by decide +kernel)) ?_
  refine x_top (M := (M_law nm)) (y := a0) ((congrArg xs (by decide +kernel : ((Int32.ofInt 1) + (Int32.ofInt 1)).toNatClampNeg = 2)).trans e2) ?_
  refine x_aload_n (M := (M_law nm)) dL_law_1741 rfl ?_
  refine x_iload (M := (M_law nm)) dL_law_1742 rfl ?_
  refine x_iconst (M := (M_law nm)) dL_law_1744 ?_
  refine x_iadd (M := (M_law nm)) dL_law_1745 ?_
  refine x_sald (M := (M_law nm)) dL_law_1746 (by decide) hx (vp_inD (by decide +kernel)) ?_
  refine x_top (M := (M_law nm)) (y := a1) ((congrArg xs (by decide +kernel : ((Int32.ofInt 1) + (Int32.ofInt 2)).toNatClampNeg = 3)).trans e3) ?_
  refine x_aload_n (M := (M_law nm)) dL_law_1747 rfl ?_
  refine x_iload (M := (M_law nm)) dL_law_1748 rfl ?_
  refine x_iconst (M := (M_law nm)) dL_law_1750 ?_
  refine x_iadd (M := (M_law nm)) dL_law_1751 ?_
  refine x_sald (M := (M_law nm)) dL_law_1752 (by decide) hx (vp_inD (by decide +kernel)) ?_
  refine x_top (M := (M_law nm)) (y := a2) ((congrArg xs (by decide +kernel : ((Int32.ofInt 1) + (Int32.ofInt 3)).toNatClampNeg = 4)).trans e4) ?_
  refine x_aload_n (M := (M_law nm)) dL_law_1753 rfl ?_
  refine x_iload (M := (M_law nm)) dL_law_1754 rfl ?_
  refine x_iconst (M := (M_law nm)) dL_law_1756 ?_
  refine x_iadd (M := (M_law nm)) dL_law_1757 ?_
  refine x_sald (M := (M_law nm)) dL_law_1758 (by decide) hx (vp_inD (by decide +kernel)) ?_
  refine x_top (M := (M_law nm)) (y := a3) ((congrArg xs (by decide +kernel : ((Int32.ofInt 1) + (Int32.ofInt 4)).toNatClampNeg = 5)).trans e5) ?_
  refine x_aload_n (M := (M_law nm)) dL_law_1759 rfl ?_
  refine x_iload (M := (M_law nm)) dL_law_1760 rfl ?_
  refine x_iconst (M := (M_law nm)) dL_law_1762 ?_
  refine x_iadd (M := (M_law nm)) dL_law_1763 ?_
  refine x_sald (M := (M_law nm)) dL_law_1764 (by decide) hx (vp_inD (by decide +kernel)) ?_
  refine x_top (M := (M_law nm)) (y := a4) ((congrArg xs (by decide +kernel : ((Int32.ofInt 1) + (Int32.ofInt 5)).toNatClampNeg = 6)).trans e6) ?_
  have o6015 := (f6003 277 _ (by decide) o6014)
  refine y_callVR (M := (M_law nm)) (M' := M_X12_find) rfl rfl dL_law_1765 m_X12_find t_3129 t_3130 t_3131 (q6013 hl c0 c1 c2 c3 c4 c5 c6 o6015) rfl rfl o6015 rfl (Nat.le_of_ble_eq_true rfl) (Nat.le_of_ble_eq_true rfl) (Nat.le_of_ble_eq_true rfl) (Nat.le_of_ble_eq_true rfl) (fun h6016 f6017 w6018 => ?_)
  obtain ⟨o6019, -⟩ := w6018
  refine x_istore (M := (M_law nm)) dL_law_1768 (Nat.le_of_ble_eq_true rfl) rfl ?_
  refine x_aload_n (M := (M_law nm)) dL_law_1770 rfl ?_
  refine x_callVR (M := (M_law nm)) (M' := M_X12_thrown) rfl rfl dL_law_1771 m_X12_thrown t_2797 t_2798 t_2799 (q35 hl o6019) rfl rfl o6019 rfl (Nat.le_of_ble_eq_true rfl) (Nat.le_of_ble_eq_true rfl) (Nat.le_of_ble_eq_true rfl) (Nat.le_of_ble_eq_true rfl) ?_
  refine x_iload (M := (M_law nm)) dL_law_1774 rfl ?_
  refine x_icmp_eq (M := (M_law nm)) (tgt := 1781) dL_law_1776 (by decide) (fun _ => ?_) (fun q => absurd q (by decide +kernel))
  refine x_iload (M := (M_law nm)) dL_law_1781 rfl ?_
  refine x_if_ne (M := (M_law nm)) (tgt := 1798) dL_law_1783 (by decide) (fun _ => ?_) (fun q => absurd q (by decide +kernel))
  refine x_goto (M := (M_law nm)) (tgt := 2449) dL_law_1798 (by decide) ?_
  refine x_iinc (M := (M_law nm)) dL_law_2449 rfl (Nat.le_of_ble_eq_true rfl) rfl ?_
  refine x_lvs (M := (M_law nm)) (lv' := [some (.ref 0), some (.ref 32), some (.ref 277), some (.ref 359), some (.int (Int32.ofInt 7)), some (.int (Int32.ofInt 1)), some (.int (Int32.ofInt 0)), none]) (by rw [(by decide +kernel : (Int32.ofInt 1) + Int32.ofInt 6 = (Int32.ofInt 7))] <;> rfl) ?_
  refine x_goto (M := (M_law nm)) (tgt := 33) dL_law_2452 (by decide) ?_
  refine x_iload (M := (M_law nm)) dL_law_33 rfl ?_
  refine x_aload_n (M := (M_law nm)) dL_law_35 rfl ?_
  refine x_slen (M := (M_law nm)) dL_law_36 (by decide) hx ?_
  refine x_bipush (M := (M_law nm)) dL_law_37 ?_
  refine x_isub (M := (M_law nm)) dL_law_39 ?_
  refine x_icmp_gt (M := (M_law nm)) (tgt := 2455) dL_law_40 (by decide) (fun _ => ?_) (fun q => absurd q (by decide +kernel))
  refine x_iconst (M := (M_law nm)) dL_law_2455 ?_
  exact x_zret (M := (M_law nm)) dL_law_2456 rfl (by decide) rfl (Nat.le_of_ble_eq_true rfl) (Nat.le_of_ble_eq_true rfl)
set_option maxRecDepth 10000 in
theorem q6040 {l : Launch} {E : EE} (hl : l.stackTraces = false) {h : HP} {a0 : Int32} {a1 : Int32} {a2 : Int32} {a3 : Int32} {a4 : Int32} {dg : Int32} (c0 : ¬ (a0.toInt < 0)) (c1 : ¬ (2 < a0.toInt)) (c2 : ¬ (a1.toInt < (-1000000000))) (c3 : ¬ (a2.toInt < (-1000000000))) (c4 : ¬ (1000000000 < a3.toInt)) (c5 : 1000000000 < a4.toInt) (c6 : ¬ (1000000000 < a1.toInt)) (c7 : 1000000000 < a2.toInt) (o6032 : ob h 277 = some (.inr (15, (RB dg)))) : en_C l E M_X12_find 2 0 0 [.ref 277, .int a0, .int a1, .int a2, .int a3, .int a4] h (pF (some (.int (Int32.ofInt 0))) [277] h (fun h' => ob h' 277 = some (.inr (15, ((RB dg).set 0 (.int (Int32.ofInt 1))))) ∧ True)) := by
  refine en_mk m_X12_find rfl hl (Nat.le_of_ble_eq_true rfl) ?_
  refine x_aload_n (M := M_X12_find) dX12_find_0 rfl ?_
  refine x_iconst (M := M_X12_find) dX12_find_1 ?_
  refine y_put (M := M_X12_find) (ci := 15) (C := RX12) (T := TX12) (N := 135) (ty := tyX12) cl15 dX12_find_2 o6032 0 (by decide) t_2391 (Or.inl rfl) (Nat.le_of_ble_eq_true rfl) rfl (fun h6033 w6034 f6035 => ?_)
  refine x_iload_n (M := M_X12_find) dX12_find_5 rfl ?_
  refine x_i2l (M := M_X12_find) dX12_find_6 ?_
  refine x_lconst (M := M_X12_find) dX12_find_7 ?_
  refine x_ldc2 (M := M_X12_find) dX12_find_8 t_3091 ?_
  refine x_norm (M := M_X12_find) (st' := [.long (Int64.ofInt 2), .long (Int64.ofInt 0), .long (a0.toInt64)]) rfl (vj_cons (by decide +kernel : (2 : Int64) = (Int64.ofInt 2)) (vj_cons (by decide +kernel : (Int64.ofNat ((0 : Fin 2) : Nat)) = (Int64.ofInt 0)) rfl)) rfl rfl rfl ?_
  refine x_callSR (M := M_X12_find) (M' := M_X12_in) rfl rfl dX12_find_11 m_X12_in t_2818 t_2819 (q5833 hl c0 c1) rfl rfl (Nat.le_of_ble_eq_true rfl) (Nat.le_of_ble_eq_true rfl) (Nat.le_of_ble_eq_true rfl) (Nat.le_of_ble_eq_true rfl) ?_
  refine x_if_eq (M := M_X12_find) (tgt := 67) dX12_find_14 (by decide) (fun q => absurd q (by decide +kernel)) (fun _ => ?_)
  refine x_iload_n (M := M_X12_find) dX12_find_17 rfl ?_
  refine x_i2l (M := M_X12_find) dX12_find_18 ?_
  refine x_callSR (M := M_X12_find) (M' := M_X12_isFar) rfl rfl dX12_find_19 m_X12_isFar t_3133 t_3134 (q5646 hl c2 c6) rfl rfl (Nat.le_of_ble_eq_true rfl) (Nat.le_of_ble_eq_true rfl) (Nat.le_of_ble_eq_true rfl) (Nat.le_of_ble_eq_true rfl) ?_
  refine x_if_eq (M := M_X12_find) (tgt := 67) dX12_find_22 (by decide) (fun q => absurd q (by decide +kernel)) (fun _ => ?_)
  refine x_iload_n (M := M_X12_find) dX12_find_25 rfl ?_
  refine x_i2l (M := M_X12_find) dX12_find_26 ?_
  refine x_callSR (M := M_X12_find) (M' := M_X12_isFar) rfl rfl dX12_find_27 m_X12_isFar t_3133 t_3134 (q5951 hl c3 c7) rfl rfl (Nat.le_of_ble_eq_true rfl) (Nat.le_of_ble_eq_true rfl) (Nat.le_of_ble_eq_true rfl) (Nat.le_of_ble_eq_true rfl) ?_
  refine x_if_eq (M := M_X12_find) (tgt := 67) dX12_find_30 (by decide) (fun _ => ?_) (fun q => absurd q (by decide +kernel))
  refine x_iconst (M := M_X12_find) dX12_find_67 ?_
  refine x_istore (M := M_X12_find) dX12_find_68 (Nat.le_of_ble_eq_true rfl) rfl ?_
  refine x_aload_n (M := M_X12_find) dX12_find_70 rfl ?_
  refine x_iload (M := M_X12_find) dX12_find_71 rfl ?_
  refine x_if_ne (M := M_X12_find) (tgt := 80) dX12_find_73 (by decide) (fun q => absurd q (by decide +kernel)) (fun _ => ?_)
  refine x_iconst (M := M_X12_find) dX12_find_76 ?_
  refine x_goto (M := M_X12_find) (tgt := 81) dX12_find_77 (by decide) ?_
  refine x_iconst (M := M_X12_find) dX12_find_81 ?_
  refine y_callVR (M := M_X12_find) (M' := M_X12_fails) rfl rfl dX12_find_82 m_X12_fails t_2805 t_2807 s_157 (q22 hl w6034) rfl rfl w6034 rfl (Nat.le_of_ble_eq_true rfl) (Nat.le_of_ble_eq_true rfl) (Nat.le_of_ble_eq_true rfl) (Nat.le_of_ble_eq_true rfl) (fun h6036 f6037 w6038 => ?_)
  obtain ⟨o6039, -⟩ := w6038
  refine x_if_eq (M := M_X12_find) (tgt := 90) dX12_find_85 (by decide) (fun q => absurd q (by decide +kernel)) (fun _ => ?_)
  refine x_iconst (M := M_X12_find) dX12_find_88 ?_
  exact x_iret (M := M_X12_find) dX12_find_89 rfl ⟨rfl, (fr_tr f6037 (by decide) (fr_tr f6035 (by decide) fr_rf)), ⟨o6039, trivial⟩⟩ (Nat.le_of_ble_eq_true rfl) (Nat.le_of_ble_eq_true rfl)
set_option maxRecDepth 10000 in
theorem lc23_9 {l : Launch} {E : EE} (hl : l.stackTraces = false) (nm : String) {xs : Nat → Int32} (hx : E.2.2.2.2 0 = some (7, xs)) {h : HP} {a0 : Int32} {a1 : Int32} {a2 : Int32} {a3 : Int32} {a4 : Int32} {dg : Int32} (e2 : xs 2 = a0) (e3 : xs 3 = a1) (e4 : xs 4 = a2) (e5 : xs 5 = a3) (e6 : xs 6 = a4) (c0 : ¬ (a0.toInt < 0)) (c1 : ¬ (2 < a0.toInt)) (c2 : ¬ (a1.toInt < (-1000000000))) (c3 : ¬ (a2.toInt < (-1000000000))) (c4 : ¬ (1000000000 < a3.toInt)) (c5 : 1000000000 < a4.toInt) (c6 : ¬ (1000000000 < a1.toInt)) (c7 : 1000000000 < a2.toInt) (o6028 : ob h 32 = some (.inr (14, [.ref 33, .ref 162, .ref 166, .int (0 : Int32), .int (0 : Int32), .int (0 : Int32), .ref 167, .ref 170, .ref 173, .ref 177, .ref 193, .ref 208, .ref 222, .ref 238, .ref 252, .ref 274, .ref 275, .ref 276, .int (0 : Int32)]))) (o6041 : ob h 277 = some (.inr (15, (RB dg)))) : XX l E (M_law nm) 1312 342628 8074320 (fun o _ => o = .inl (some (.int 1))) 1697 [some (.ref 0), some (.ref 32), some (.ref 277), some (.ref 359), some (.int (Int32.ofInt 1)), none, none, none] [] h 328 2463747 := by
  refine x_aload_n (M := (M_law nm)) dL_law_1697 rfl ?_
  refine x_aload_n (M := (M_law nm)) dL_law_1698 rfl ?_
  refine x_iload (M := (M_law nm)) dL_law_1699 rfl ?_
  refine x_iconst (M := (M_law nm)) dL_law_1701 ?_
  refine x_iadd (M := (M_law nm)) dL_law_1702 ?_
  refine x_sald (M := (M_law nm)) dL_law_1703 (by decide) hx (vp_inD (by decide +kernel)) ?_
  refine x_top (M := (M_law nm)) (y := a0) ((congrArg xs (by decide +kernel : ((Int32.ofInt 1) + (Int32.ofInt 1)).toNatClampNeg = 2)).trans e2) ?_
  refine x_aload_n (M := (M_law nm)) dL_law_1704 rfl ?_
  refine x_iload (M := (M_law nm)) dL_law_1705 rfl ?_
  refine x_iconst (M := (M_law nm)) dL_law_1707 ?_
  refine x_iadd (M := (M_law nm)) dL_law_1708 ?_
  refine x_sald (M := (M_law nm)) dL_law_1709 (by decide) hx (vp_inD (by decide +kernel)) ?_
  refine x_top (M := (M_law nm)) (y := a1) ((congrArg xs (by decide +kernel : ((Int32.ofInt 1) + (Int32.ofInt 2)).toNatClampNeg = 3)).trans e3) ?_
  refine x_aload_n (M := (M_law nm)) dL_law_1710 rfl ?_
  refine x_iload (M := (M_law nm)) dL_law_1711 rfl ?_
  refine x_iconst (M := (M_law nm)) dL_law_1713 ?_
  refine x_iadd (M := (M_law nm)) dL_law_1714 ?_
  refine x_sald (M := (M_law nm)) dL_law_1715 (by decide) hx (vp_inD (by decide +kernel)) ?_
  refine x_top (M := (M_law nm)) (y := a2) ((congrArg xs (by decide +kernel : ((Int32.ofInt 1) + (Int32.ofInt 3)).toNatClampNeg = 4)).trans e4) ?_
  refine x_aload_n (M := (M_law nm)) dL_law_1716 rfl ?_
  refine x_iload (M := (M_law nm)) dL_law_1717 rfl ?_
  refine x_iconst (M := (M_law nm)) dL_law_1719 ?_
  refine x_iadd (M := (M_law nm)) dL_law_1720 ?_
  refine x_sald (M := (M_law nm)) dL_law_1721 (by decide) hx (vp_inD (by decide +kernel)) ?_
  refine x_top (M := (M_law nm)) (y := a3) ((congrArg xs (by decide +kernel : ((Int32.ofInt 1) + (Int32.ofInt 4)).toNatClampNeg = 5)).trans e5) ?_
  refine x_aload_n (M := (M_law nm)) dL_law_1722 rfl ?_
  refine x_iload (M := (M_law nm)) dL_law_1723 rfl ?_
  refine x_iconst (M := (M_law nm)) dL_law_1725 ?_
  refine x_iadd (M := (M_law nm)) dL_law_1726 ?_
  refine x_sald (M := (M_law nm)) dL_law_1727 (by decide) hx (vp_inD (by decide +kernel)) ?_
  refine x_top (M := (M_law nm)) (y := a4) ((congrArg xs (by decide +kernel : ((Int32.ofInt 1) + (Int32.ofInt 5)).toNatClampNeg = 6)).trans e6) ?_
  refine x_aload_n (M := (M_law nm)) dL_law_1728 rfl ?_
  refine y_callSW (M := (M_law nm)) (M' := M_L_find) rfl rfl dL_law_1729 m_L_find t_2242 t_2243 (q5992 hl c0 c1 c2 c3 c4 c5 o6028) rfl rfl (Nat.le_of_ble_eq_true rfl) (Nat.le_of_ble_eq_true rfl) (Nat.le_of_ble_eq_true rfl) (Nat.le_of_ble_eq_true rfl) (fun h6029 f6030 w6031 => ?_)
  refine x_istore (M := (M_law nm)) dL_law_1732 (Nat.le_of_ble_eq_true rfl) rfl ?_
  refine x_aload_n (M := (M_law nm)) dL_law_1734 rfl ?_
  refine x_aload_n (M := (M_law nm)) dL_law_1735 rfl ?_
  refine x_iload (M := (M_law nm)) dL_law_1736 rfl ?_
  refine x_iconst (M := (M_law nm)) dL_law_1738 ?_
  refine x_iadd (M := (M_law nm)) dL_law_1739 ?_
  refine x_sald (M := (M_law nm)) dL_law_1740 (by decide) hx (vp_inD (by decide +kernel)) ?_
  refine x_top (M := (M_law nm)) (y := a0) ((congrArg xs (by decide +kernel : ((Int32.ofInt 1) + (Int32.ofInt 1)).toNatClampNeg = 2)).trans e2) ?_
  refine x_aload_n (M := (M_law nm)) dL_law_1741 rfl ?_
  refine x_iload (M := (M_law nm)) dL_law_1742 rfl ?_
  refine x_iconst (M := (M_law nm)) dL_law_1744 ?_
  refine x_iadd (M := (M_law nm)) dL_law_1745 ?_
  refine x_sald (M := (M_law nm)) dL_law_1746 (by decide) hx (vp_inD (by decide +kernel)) ?_
  refine x_top (M := (M_law nm)) (y := a1) ((congrArg xs (by decide +kernel : ((Int32.ofInt 1) + (Int32.ofInt 2)).toNatClampNeg = 3)).trans e3) ?_
  refine x_aload_n (M := (M_law nm)) dL_law_1747 rfl ?_
  refine x_iload (M := (M_law nm)) dL_law_1748 rfl ?_
  refine x_iconst (M := (M_law nm)) dL_law_1750 ?_
  refine x_iadd (M := (M_law nm)) dL_law_1751 ?_
  refine x_sald (M := (M_law nm)) dL_law_1752 (by decide) hx (vp_inD (by decide +kernel)) ?_
  refine x_top (M := (M_law nm)) (y := a2) ((congrArg xs (by decide +kernel : ((Int32.ofInt 1) + (Int32.ofInt 3)).toNatClampNeg = 4)).trans e4) ?_
  refine x_aload_n (M := (M_law nm)) dL_law_1753 rfl ?_
  refine x_iload (M := (M_law nm)) dL_law_1754 rfl ?_
  refine x_iconst (M := (M_law nm)) dL_law_1756 ?_
  refine x_iadd (M := (M_law nm)) dL_law_1757 ?_
  refine x_sald (M := (M_law nm)) dL_law_1758 (by decide) hx (vp_inD (by decide +kernel)) ?_
  refine x_top (M := (M_law nm)) (y := a3) ((congrArg xs (by decide +kernel : ((Int32.ofInt 1) + (Int32.ofInt 4)).toNatClampNeg = 5)).trans e5) ?_
  refine x_aload_n (M := (M_law nm)) dL_law_1759 rfl ?_
  refine x_iload (M := (M_law nm)) dL_law_1760 rfl ?_
  refine x_iconst (M := (M_law nm)) dL_law_1762 ?_
  refine x_iadd (M := (M_law nm)) dL_law_1763 ?_
  refine x_sald (M := (M_law nm)) dL_law_1764 (by decide) hx (vp_inD (by decide +kernel)) ?_
  refine x_top (M := (M_law nm)) (y := a4) ((congrArg xs (by decide +kernel : ((Int32.ofInt 1) + (Int32.ofInt 5)).toNatClampNeg = 6)).trans e6) ?_
  have o6042 := (f6030 277 _ (by decide) o6041)
  refine y_callVR (M := (M_law nm)) (M' := M_X12_find) rfl rfl dL_law_1765 m_X12_find t_3129 t_3130 t_3131 (q6040 hl c0 c1 c2 c3 c4 c5 c6 c7 o6042) rfl rfl o6042 rfl (Nat.le_of_ble_eq_true rfl) (Nat.le_of_ble_eq_true rfl) (Nat.le_of_ble_eq_true rfl) (Nat.le_of_ble_eq_true rfl) (fun h6043 f6044 w6045 => ?_)
  obtain ⟨o6046, -⟩ := w6045
  refine x_istore (M := (M_law nm)) dL_law_1768 (Nat.le_of_ble_eq_true rfl) rfl ?_
  refine x_aload_n (M := (M_law nm)) dL_law_1770 rfl ?_
  refine x_callVR (M := (M_law nm)) (M' := M_X12_thrown) rfl rfl dL_law_1771 m_X12_thrown t_2797 t_2798 t_2799 (q35 hl o6046) rfl rfl o6046 rfl (Nat.le_of_ble_eq_true rfl) (Nat.le_of_ble_eq_true rfl) (Nat.le_of_ble_eq_true rfl) (Nat.le_of_ble_eq_true rfl) ?_
  refine x_iload (M := (M_law nm)) dL_law_1774 rfl ?_
  refine x_icmp_eq (M := (M_law nm)) (tgt := 1781) dL_law_1776 (by decide) (fun _ => ?_) (fun q => absurd q (by decide +kernel))
  refine x_iload (M := (M_law nm)) dL_law_1781 rfl ?_
  refine x_if_ne (M := (M_law nm)) (tgt := 1798) dL_law_1783 (by decide) (fun _ => ?_) (fun q => absurd q (by decide +kernel))
  refine x_goto (M := (M_law nm)) (tgt := 2449) dL_law_1798 (by decide) ?_
  refine x_iinc (M := (M_law nm)) dL_law_2449 rfl (Nat.le_of_ble_eq_true rfl) rfl ?_
  refine x_lvs (M := (M_law nm)) (lv' := [some (.ref 0), some (.ref 32), some (.ref 277), some (.ref 359), some (.int (Int32.ofInt 7)), some (.int (Int32.ofInt 1)), some (.int (Int32.ofInt 0)), none]) (by rw [(by decide +kernel : (Int32.ofInt 1) + Int32.ofInt 6 = (Int32.ofInt 7))] <;> rfl) ?_
  refine x_goto (M := (M_law nm)) (tgt := 33) dL_law_2452 (by decide) ?_
  refine x_iload (M := (M_law nm)) dL_law_33 rfl ?_
  refine x_aload_n (M := (M_law nm)) dL_law_35 rfl ?_
  refine x_slen (M := (M_law nm)) dL_law_36 (by decide) hx ?_
  refine x_bipush (M := (M_law nm)) dL_law_37 ?_
  refine x_isub (M := (M_law nm)) dL_law_39 ?_
  refine x_icmp_gt (M := (M_law nm)) (tgt := 2455) dL_law_40 (by decide) (fun _ => ?_) (fun q => absurd q (by decide +kernel))
  refine x_iconst (M := (M_law nm)) dL_law_2455 ?_
  exact x_zret (M := (M_law nm)) dL_law_2456 rfl (by decide) rfl (Nat.le_of_ble_eq_true rfl) (Nat.le_of_ble_eq_true rfl)
set_option maxRecDepth 10000 in
theorem q6063 {l : Launch} {E : EE} (hl : l.stackTraces = false) {h : HP} {a3 : Int32} (c0 : ¬ (1000000000 < a3.toInt)) (c1 : a3.toInt < (-1000000000)) : en_C l E M_X12_in 0 0 0 [.long (a3.toInt64), .long (Int64.ofInt (-1000000000)), .long (Int64.ofInt 1000000000)] h (pR (some (.int (Int32.ofInt 0))) h) := by
  refine en_mk m_X12_in rfl hl (Nat.le_of_ble_eq_true rfl) ?_
  refine x_lload_n (M := M_X12_in) dX12_in_0 rfl ?_
  refine x_lload_n (M := M_X12_in) dX12_in_1 rfl ?_
  refine x_lcmp (M := M_X12_in) dX12_in_2 ?_
  refine x_if_lt (M := M_X12_in) (tgt := 17) dX12_in_3 (by decide) (fun _ => ?_) (fun q => absurd ((bc_lt (i_i2l rfl) (by decide +kernel)).mpr (by omega : (a3.toInt < (-1000000000) : Prop))) q)
  refine x_iconst (M := M_X12_in) dX12_in_17 ?_
  exact x_zret (M := M_X12_in) dX12_in_18 rfl (by decide) ⟨rfl, rfl⟩ (Nat.le_of_ble_eq_true rfl) (Nat.le_of_ble_eq_true rfl)
set_option maxRecDepth 10000 in
theorem q6064 {l : Launch} {E : EE} (hl : l.stackTraces = false) {h : HP} {a3 : Int32} (c0 : ¬ (1000000000 < a3.toInt)) (c1 : a3.toInt < (-1000000000)) : en_C l E M_X12_isFar 1 0 0 [.long (a3.toInt64)] h (pR (some (.int (Int32.ofInt 0))) h) := by
  refine en_mk m_X12_isFar rfl hl (Nat.le_of_ble_eq_true rfl) ?_
  refine x_lload_n (M := M_X12_isFar) dX12_isFar_0 rfl ?_
  refine x_ldc2 (M := M_X12_isFar) dX12_isFar_1 t_3136 ?_
  refine x_ldc2 (M := M_X12_isFar) dX12_isFar_4 t_2937 ?_
  refine x_norm (M := M_X12_isFar) (st' := [.long (Int64.ofInt 1000000000), .long (Int64.ofInt (-1000000000)), .long (a3.toInt64)]) rfl (vj_cons (by decide +kernel : (1000000000 : Int64) = (Int64.ofInt 1000000000)) (vj_cons (by decide +kernel : (-1000000000 : Int64) = (Int64.ofInt (-1000000000))) rfl)) rfl rfl rfl ?_
  refine x_callSR (M := M_X12_isFar) (M' := M_X12_in) rfl rfl dX12_isFar_7 m_X12_in t_2818 t_2819 (q6063 hl c0 c1) rfl rfl (Nat.le_of_ble_eq_true rfl) (Nat.le_of_ble_eq_true rfl) (Nat.le_of_ble_eq_true rfl) (Nat.le_of_ble_eq_true rfl) ?_
  exact x_zret (M := M_X12_isFar) dX12_isFar_10 rfl (by decide) ⟨rfl, rfl⟩ (Nat.le_of_ble_eq_true rfl) (Nat.le_of_ble_eq_true rfl)
set_option maxRecDepth 10000 in
theorem q6069 {l : Launch} {E : EE} (hl : l.stackTraces = false) {h : HP} {a0 : Int32} {a1 : Int32} {a2 : Int32} {a3 : Int32} {a4 : Int32} {dg : Int32} (c0 : ¬ (a0.toInt < 0)) (c1 : ¬ (2 < a0.toInt)) (c2 : ¬ (a1.toInt < (-1000000000))) (c3 : ¬ (a2.toInt < (-1000000000))) (c4 : ¬ (1000000000 < a3.toInt)) (c5 : 1000000000 < a4.toInt) (c6 : ¬ (1000000000 < a1.toInt)) (c7 : ¬ (1000000000 < a2.toInt)) (c8 : a3.toInt < (-1000000000)) (o6059 : ob h 277 = some (.inr (15, (RB dg)))) : en_C l E M_X12_find 2 0 0 [.ref 277, .int a0, .int a1, .int a2, .int a3, .int a4] h (pF (some (.int (Int32.ofInt 0))) [277] h (fun h' => ob h' 277 = some (.inr (15, ((RB dg).set 0 (.int (Int32.ofInt 1))))) ∧ True)) := by
  refine en_mk m_X12_find rfl hl (Nat.le_of_ble_eq_true rfl) ?_
  refine x_aload_n (M := M_X12_find) dX12_find_0 rfl ?_
  refine x_iconst (M := M_X12_find) dX12_find_1 ?_
  refine y_put (M := M_X12_find) (ci := 15) (C := RX12) (T := TX12) (N := 135) (ty := tyX12) cl15 dX12_find_2 o6059 0 (by decide) t_2391 (Or.inl rfl) (Nat.le_of_ble_eq_true rfl) rfl (fun h6060 w6061 f6062 => ?_)
  refine x_iload_n (M := M_X12_find) dX12_find_5 rfl ?_
  refine x_i2l (M := M_X12_find) dX12_find_6 ?_
  refine x_lconst (M := M_X12_find) dX12_find_7 ?_
  refine x_ldc2 (M := M_X12_find) dX12_find_8 t_3091 ?_
  refine x_norm (M := M_X12_find) (st' := [.long (Int64.ofInt 2), .long (Int64.ofInt 0), .long (a0.toInt64)]) rfl (vj_cons (by decide +kernel : (2 : Int64) = (Int64.ofInt 2)) (vj_cons (by decide +kernel : (Int64.ofNat ((0 : Fin 2) : Nat)) = (Int64.ofInt 0)) rfl)) rfl rfl rfl ?_
  refine x_callSR (M := M_X12_find) (M' := M_X12_in) rfl rfl dX12_find_11 m_X12_in t_2818 t_2819 (q5833 hl c0 c1) rfl rfl (Nat.le_of_ble_eq_true rfl) (Nat.le_of_ble_eq_true rfl) (Nat.le_of_ble_eq_true rfl) (Nat.le_of_ble_eq_true rfl) ?_
  refine x_if_eq (M := M_X12_find) (tgt := 67) dX12_find_14 (by decide) (fun q => absurd q (by decide +kernel)) (fun _ => ?_)
  refine x_iload_n (M := M_X12_find) dX12_find_17 rfl ?_
  refine x_i2l (M := M_X12_find) dX12_find_18 ?_
  refine x_callSR (M := M_X12_find) (M' := M_X12_isFar) rfl rfl dX12_find_19 m_X12_isFar t_3133 t_3134 (q5646 hl c2 c6) rfl rfl (Nat.le_of_ble_eq_true rfl) (Nat.le_of_ble_eq_true rfl) (Nat.le_of_ble_eq_true rfl) (Nat.le_of_ble_eq_true rfl) ?_
  refine x_if_eq (M := M_X12_find) (tgt := 67) dX12_find_22 (by decide) (fun q => absurd q (by decide +kernel)) (fun _ => ?_)
  refine x_iload_n (M := M_X12_find) dX12_find_25 rfl ?_
  refine x_i2l (M := M_X12_find) dX12_find_26 ?_
  refine x_callSR (M := M_X12_find) (M' := M_X12_isFar) rfl rfl dX12_find_27 m_X12_isFar t_3133 t_3134 (q5972 hl c3 c7) rfl rfl (Nat.le_of_ble_eq_true rfl) (Nat.le_of_ble_eq_true rfl) (Nat.le_of_ble_eq_true rfl) (Nat.le_of_ble_eq_true rfl) ?_
  refine x_if_eq (M := M_X12_find) (tgt := 67) dX12_find_30 (by decide) (fun q => absurd q (by decide +kernel)) (fun _ => ?_)
  refine x_iload (M := M_X12_find) dX12_find_33 rfl ?_
  refine x_i2l (M := M_X12_find) dX12_find_35 ?_
  refine x_callSR (M := M_X12_find) (M' := M_X12_isFar) rfl rfl dX12_find_36 m_X12_isFar t_3133 t_3134 (q6064 hl c4 c8) rfl rfl (Nat.le_of_ble_eq_true rfl) (Nat.le_of_ble_eq_true rfl) (Nat.le_of_ble_eq_true rfl) (Nat.le_of_ble_eq_true rfl) ?_
  refine x_if_eq (M := M_X12_find) (tgt := 67) dX12_find_39 (by decide) (fun _ => ?_) (fun q => absurd q (by decide +kernel))
  refine x_iconst (M := M_X12_find) dX12_find_67 ?_
  refine x_istore (M := M_X12_find) dX12_find_68 (Nat.le_of_ble_eq_true rfl) rfl ?_
  refine x_aload_n (M := M_X12_find) dX12_find_70 rfl ?_
  refine x_iload (M := M_X12_find) dX12_find_71 rfl ?_
  refine x_if_ne (M := M_X12_find) (tgt := 80) dX12_find_73 (by decide) (fun q => absurd q (by decide +kernel)) (fun _ => ?_)
  refine x_iconst (M := M_X12_find) dX12_find_76 ?_
  refine x_goto (M := M_X12_find) (tgt := 81) dX12_find_77 (by decide) ?_
  refine x_iconst (M := M_X12_find) dX12_find_81 ?_
  refine y_callVR (M := M_X12_find) (M' := M_X12_fails) rfl rfl dX12_find_82 m_X12_fails t_2805 t_2807 s_157 (q22 hl w6061) rfl rfl w6061 rfl (Nat.le_of_ble_eq_true rfl) (Nat.le_of_ble_eq_true rfl) (Nat.le_of_ble_eq_true rfl) (Nat.le_of_ble_eq_true rfl) (fun h6065 f6066 w6067 => ?_)
  obtain ⟨o6068, -⟩ := w6067
  refine x_if_eq (M := M_X12_find) (tgt := 90) dX12_find_85 (by decide) (fun q => absurd q (by decide +kernel)) (fun _ => ?_)
  refine x_iconst (M := M_X12_find) dX12_find_88 ?_
  exact x_iret (M := M_X12_find) dX12_find_89 rfl ⟨rfl, (fr_tr f6066 (by decide) (fr_tr f6062 (by decide) fr_rf)), ⟨o6068, trivial⟩⟩ (Nat.le_of_ble_eq_true rfl) (Nat.le_of_ble_eq_true rfl)
set_option maxRecDepth 10000 in
theorem lc23_10 {l : Launch} {E : EE} (hl : l.stackTraces = false) (nm : String) {xs : Nat → Int32} (hx : E.2.2.2.2 0 = some (7, xs)) {h : HP} {a0 : Int32} {a1 : Int32} {a2 : Int32} {a3 : Int32} {a4 : Int32} {dg : Int32} (e2 : xs 2 = a0) (e3 : xs 3 = a1) (e4 : xs 4 = a2) (e5 : xs 5 = a3) (e6 : xs 6 = a4) (c0 : ¬ (a0.toInt < 0)) (c1 : ¬ (2 < a0.toInt)) (c2 : ¬ (a1.toInt < (-1000000000))) (c3 : ¬ (a2.toInt < (-1000000000))) (c4 : ¬ (1000000000 < a3.toInt)) (c5 : 1000000000 < a4.toInt) (c6 : ¬ (1000000000 < a1.toInt)) (c7 : ¬ (1000000000 < a2.toInt)) (c8 : a3.toInt < (-1000000000)) (o6055 : ob h 32 = some (.inr (14, [.ref 33, .ref 162, .ref 166, .int (0 : Int32), .int (0 : Int32), .int (0 : Int32), .ref 167, .ref 170, .ref 173, .ref 177, .ref 193, .ref 208, .ref 222, .ref 238, .ref 252, .ref 274, .ref 275, .ref 276, .int (0 : Int32)]))) (o6070 : ob h 277 = some (.inr (15, (RB dg)))) : XX l E (M_law nm) 1312 342628 8074320 (fun o _ => o = .inl (some (.int 1))) 1697 [some (.ref 0), some (.ref 32), some (.ref 277), some (.ref 359), some (.int (Int32.ofInt 1)), none, none, none] [] h 328 2463747 := by
  refine x_aload_n (M := (M_law nm)) dL_law_1697 rfl ?_
  refine x_aload_n (M := (M_law nm)) dL_law_1698 rfl ?_
  refine x_iload (M := (M_law nm)) dL_law_1699 rfl ?_
  refine x_iconst (M := (M_law nm)) dL_law_1701 ?_
  refine x_iadd (M := (M_law nm)) dL_law_1702 ?_
  refine x_sald (M := (M_law nm)) dL_law_1703 (by decide) hx (vp_inD (by decide +kernel)) ?_
  refine x_top (M := (M_law nm)) (y := a0) ((congrArg xs (by decide +kernel : ((Int32.ofInt 1) + (Int32.ofInt 1)).toNatClampNeg = 2)).trans e2) ?_
  refine x_aload_n (M := (M_law nm)) dL_law_1704 rfl ?_
  refine x_iload (M := (M_law nm)) dL_law_1705 rfl ?_
  refine x_iconst (M := (M_law nm)) dL_law_1707 ?_
  refine x_iadd (M := (M_law nm)) dL_law_1708 ?_
  refine x_sald (M := (M_law nm)) dL_law_1709 (by decide) hx (vp_inD (by decide +kernel)) ?_
  refine x_top (M := (M_law nm)) (y := a1) ((congrArg xs (by decide +kernel : ((Int32.ofInt 1) + (Int32.ofInt 2)).toNatClampNeg = 3)).trans e3) ?_
  refine x_aload_n (M := (M_law nm)) dL_law_1710 rfl ?_
  refine x_iload (M := (M_law nm)) dL_law_1711 rfl ?_
  refine x_iconst (M := (M_law nm)) dL_law_1713 ?_
  refine x_iadd (M := (M_law nm)) dL_law_1714 ?_
  refine x_sald (M := (M_law nm)) dL_law_1715 (by decide) hx (vp_inD (by decide +kernel)) ?_
  refine x_top (M := (M_law nm)) (y := a2) ((congrArg xs (by decide +kernel : ((Int32.ofInt 1) + (Int32.ofInt 3)).toNatClampNeg = 4)).trans e4) ?_
  refine x_aload_n (M := (M_law nm)) dL_law_1716 rfl ?_
  refine x_iload (M := (M_law nm)) dL_law_1717 rfl ?_
  refine x_iconst (M := (M_law nm)) dL_law_1719 ?_
  refine x_iadd (M := (M_law nm)) dL_law_1720 ?_
  refine x_sald (M := (M_law nm)) dL_law_1721 (by decide) hx (vp_inD (by decide +kernel)) ?_
  refine x_top (M := (M_law nm)) (y := a3) ((congrArg xs (by decide +kernel : ((Int32.ofInt 1) + (Int32.ofInt 4)).toNatClampNeg = 5)).trans e5) ?_
  refine x_aload_n (M := (M_law nm)) dL_law_1722 rfl ?_
  refine x_iload (M := (M_law nm)) dL_law_1723 rfl ?_
  refine x_iconst (M := (M_law nm)) dL_law_1725 ?_
  refine x_iadd (M := (M_law nm)) dL_law_1726 ?_
  refine x_sald (M := (M_law nm)) dL_law_1727 (by decide) hx (vp_inD (by decide +kernel)) ?_
  refine x_top (M := (M_law nm)) (y := a4) ((congrArg xs (by decide +kernel : ((Int32.ofInt 1) + (Int32.ofInt 5)).toNatClampNeg = 6)).trans e6) ?_
  refine x_aload_n (M := (M_law nm)) dL_law_1728 rfl ?_
  refine y_callSW (M := (M_law nm)) (M' := M_L_find) rfl rfl dL_law_1729 m_L_find t_2242 t_2243 (q5992 hl c0 c1 c2 c3 c4 c5 o6055) rfl rfl (Nat.le_of_ble_eq_true rfl) (Nat.le_of_ble_eq_true rfl) (Nat.le_of_ble_eq_true rfl) (Nat.le_of_ble_eq_true rfl) (fun h6056 f6057 w6058 => ?_)
  refine x_istore (M := (M_law nm)) dL_law_1732 (Nat.le_of_ble_eq_true rfl) rfl ?_
  refine x_aload_n (M := (M_law nm)) dL_law_1734 rfl ?_
  refine x_aload_n (M := (M_law nm)) dL_law_1735 rfl ?_
  refine x_iload (M := (M_law nm)) dL_law_1736 rfl ?_
  refine x_iconst (M := (M_law nm)) dL_law_1738 ?_
  refine x_iadd (M := (M_law nm)) dL_law_1739 ?_
  refine x_sald (M := (M_law nm)) dL_law_1740 (by decide) hx (vp_inD (by decide +kernel)) ?_
  refine x_top (M := (M_law nm)) (y := a0) ((congrArg xs (by decide +kernel : ((Int32.ofInt 1) + (Int32.ofInt 1)).toNatClampNeg = 2)).trans e2) ?_
  refine x_aload_n (M := (M_law nm)) dL_law_1741 rfl ?_
  refine x_iload (M := (M_law nm)) dL_law_1742 rfl ?_
  refine x_iconst (M := (M_law nm)) dL_law_1744 ?_
  refine x_iadd (M := (M_law nm)) dL_law_1745 ?_
  refine x_sald (M := (M_law nm)) dL_law_1746 (by decide) hx (vp_inD (by decide +kernel)) ?_
  refine x_top (M := (M_law nm)) (y := a1) ((congrArg xs (by decide +kernel : ((Int32.ofInt 1) + (Int32.ofInt 2)).toNatClampNeg = 3)).trans e3) ?_
  refine x_aload_n (M := (M_law nm)) dL_law_1747 rfl ?_
  refine x_iload (M := (M_law nm)) dL_law_1748 rfl ?_
  refine x_iconst (M := (M_law nm)) dL_law_1750 ?_
  refine x_iadd (M := (M_law nm)) dL_law_1751 ?_
  refine x_sald (M := (M_law nm)) dL_law_1752 (by decide) hx (vp_inD (by decide +kernel)) ?_
  refine x_top (M := (M_law nm)) (y := a2) ((congrArg xs (by decide +kernel : ((Int32.ofInt 1) + (Int32.ofInt 3)).toNatClampNeg = 4)).trans e4) ?_
  refine x_aload_n (M := (M_law nm)) dL_law_1753 rfl ?_
  refine x_iload (M := (M_law nm)) dL_law_1754 rfl ?_
  refine x_iconst (M := (M_law nm)) dL_law_1756 ?_
  refine x_iadd (M := (M_law nm)) dL_law_1757 ?_
  refine x_sald (M := (M_law nm)) dL_law_1758 (by decide) hx (vp_inD (by decide +kernel)) ?_
  refine x_top (M := (M_law nm)) (y := a3) ((congrArg xs (by decide +kernel : ((Int32.ofInt 1) + (Int32.ofInt 4)).toNatClampNeg = 5)).trans e5) ?_
  refine x_aload_n (M := (M_law nm)) dL_law_1759 rfl ?_
  refine x_iload (M := (M_law nm)) dL_law_1760 rfl ?_
  refine x_iconst (M := (M_law nm)) dL_law_1762 ?_
  refine x_iadd (M := (M_law nm)) dL_law_1763 ?_
  refine x_sald (M := (M_law nm)) dL_law_1764 (by decide) hx (vp_inD (by decide +kernel)) ?_
  refine x_top (M := (M_law nm)) (y := a4) ((congrArg xs (by decide +kernel : ((Int32.ofInt 1) + (Int32.ofInt 5)).toNatClampNeg = 6)).trans e6) ?_
  have o6071 := (f6057 277 _ (by decide) o6070)
  refine y_callVR (M := (M_law nm)) (M' := M_X12_find) rfl rfl dL_law_1765 m_X12_find t_3129 t_3130 t_3131 (q6069 hl c0 c1 c2 c3 c4 c5 c6 c7 c8 o6071) rfl rfl o6071 rfl (Nat.le_of_ble_eq_true rfl) (Nat.le_of_ble_eq_true rfl) (Nat.le_of_ble_eq_true rfl) (Nat.le_of_ble_eq_true rfl) (fun h6072 f6073 w6074 => ?_)
  obtain ⟨o6075, -⟩ := w6074
  refine x_istore (M := (M_law nm)) dL_law_1768 (Nat.le_of_ble_eq_true rfl) rfl ?_
  refine x_aload_n (M := (M_law nm)) dL_law_1770 rfl ?_
  refine x_callVR (M := (M_law nm)) (M' := M_X12_thrown) rfl rfl dL_law_1771 m_X12_thrown t_2797 t_2798 t_2799 (q35 hl o6075) rfl rfl o6075 rfl (Nat.le_of_ble_eq_true rfl) (Nat.le_of_ble_eq_true rfl) (Nat.le_of_ble_eq_true rfl) (Nat.le_of_ble_eq_true rfl) ?_
  refine x_iload (M := (M_law nm)) dL_law_1774 rfl ?_
  refine x_icmp_eq (M := (M_law nm)) (tgt := 1781) dL_law_1776 (by decide) (fun _ => ?_) (fun q => absurd q (by decide +kernel))
  refine x_iload (M := (M_law nm)) dL_law_1781 rfl ?_
  refine x_if_ne (M := (M_law nm)) (tgt := 1798) dL_law_1783 (by decide) (fun _ => ?_) (fun q => absurd q (by decide +kernel))
  refine x_goto (M := (M_law nm)) (tgt := 2449) dL_law_1798 (by decide) ?_
  refine x_iinc (M := (M_law nm)) dL_law_2449 rfl (Nat.le_of_ble_eq_true rfl) rfl ?_
  refine x_lvs (M := (M_law nm)) (lv' := [some (.ref 0), some (.ref 32), some (.ref 277), some (.ref 359), some (.int (Int32.ofInt 7)), some (.int (Int32.ofInt 1)), some (.int (Int32.ofInt 0)), none]) (by rw [(by decide +kernel : (Int32.ofInt 1) + Int32.ofInt 6 = (Int32.ofInt 7))] <;> rfl) ?_
  refine x_goto (M := (M_law nm)) (tgt := 33) dL_law_2452 (by decide) ?_
  refine x_iload (M := (M_law nm)) dL_law_33 rfl ?_
  refine x_aload_n (M := (M_law nm)) dL_law_35 rfl ?_
  refine x_slen (M := (M_law nm)) dL_law_36 (by decide) hx ?_
  refine x_bipush (M := (M_law nm)) dL_law_37 ?_
  refine x_isub (M := (M_law nm)) dL_law_39 ?_
  refine x_icmp_gt (M := (M_law nm)) (tgt := 2455) dL_law_40 (by decide) (fun _ => ?_) (fun q => absurd q (by decide +kernel))
  refine x_iconst (M := (M_law nm)) dL_law_2455 ?_
  exact x_zret (M := (M_law nm)) dL_law_2456 rfl (by decide) rfl (Nat.le_of_ble_eq_true rfl) (Nat.le_of_ble_eq_true rfl)
set_option maxRecDepth 10000 in
theorem q6084 {l : Launch} {E : EE} (hl : l.stackTraces = false) {h : HP} {a3 : Int32} (c0 : ¬ (1000000000 < a3.toInt)) (c1 : ¬ (a3.toInt < (-1000000000))) : en_C l E M_X12_in 0 0 0 [.long (a3.toInt64), .long (Int64.ofInt (-1000000000)), .long (Int64.ofInt 1000000000)] h (pR (some (.int (Int32.ofInt 1))) h) := by
  refine en_mk m_X12_in rfl hl (Nat.le_of_ble_eq_true rfl) ?_
  refine x_lload_n (M := M_X12_in) dX12_in_0 rfl ?_
  refine x_lload_n (M := M_X12_in) dX12_in_1 rfl ?_
  refine x_lcmp (M := M_X12_in) dX12_in_2 ?_
  refine x_if_lt (M := M_X12_in) (tgt := 17) dX12_in_3 (by decide) (fun q => absurd ((bc_lt (i_i2l rfl) (by decide +kernel)).mp q) (by omega : ¬ (a3.toInt < (-1000000000)))) (fun _ => ?_)
  refine x_lload_n (M := M_X12_in) dX12_in_6 rfl ?_
  refine x_lload (M := M_X12_in) dX12_in_7 rfl ?_
  refine x_lcmp (M := M_X12_in) dX12_in_9 ?_
  refine x_if_gt (M := M_X12_in) (tgt := 17) dX12_in_10 (by decide) (fun q => absurd ((bc_gt (i_i2l rfl) (by decide +kernel)).mp q) (by omega : ¬ (1000000000 < a3.toInt))) (fun _ => ?_)
  refine x_iconst (M := M_X12_in) dX12_in_13 ?_
  refine x_goto (M := M_X12_in) (tgt := 18) dX12_in_14 (by decide) ?_
  exact x_zret (M := M_X12_in) dX12_in_18 rfl (by decide) ⟨rfl, rfl⟩ (Nat.le_of_ble_eq_true rfl) (Nat.le_of_ble_eq_true rfl)
set_option maxRecDepth 10000 in
theorem q6085 {l : Launch} {E : EE} (hl : l.stackTraces = false) {h : HP} {a3 : Int32} (c0 : ¬ (1000000000 < a3.toInt)) (c1 : ¬ (a3.toInt < (-1000000000))) : en_C l E M_X12_isFar 1 0 0 [.long (a3.toInt64)] h (pR (some (.int (Int32.ofInt 1))) h) := by
  refine en_mk m_X12_isFar rfl hl (Nat.le_of_ble_eq_true rfl) ?_
  refine x_lload_n (M := M_X12_isFar) dX12_isFar_0 rfl ?_
  refine x_ldc2 (M := M_X12_isFar) dX12_isFar_1 t_3136 ?_
  refine x_ldc2 (M := M_X12_isFar) dX12_isFar_4 t_2937 ?_
  refine x_norm (M := M_X12_isFar) (st' := [.long (Int64.ofInt 1000000000), .long (Int64.ofInt (-1000000000)), .long (a3.toInt64)]) rfl (vj_cons (by decide +kernel : (1000000000 : Int64) = (Int64.ofInt 1000000000)) (vj_cons (by decide +kernel : (-1000000000 : Int64) = (Int64.ofInt (-1000000000))) rfl)) rfl rfl rfl ?_
  refine x_callSR (M := M_X12_isFar) (M' := M_X12_in) rfl rfl dX12_isFar_7 m_X12_in t_2818 t_2819 (q6084 hl c0 c1) rfl rfl (Nat.le_of_ble_eq_true rfl) (Nat.le_of_ble_eq_true rfl) (Nat.le_of_ble_eq_true rfl) (Nat.le_of_ble_eq_true rfl) ?_
  exact x_zret (M := M_X12_isFar) dX12_isFar_10 rfl (by decide) ⟨rfl, rfl⟩ (Nat.le_of_ble_eq_true rfl) (Nat.le_of_ble_eq_true rfl)
set_option maxRecDepth 10000 in
theorem q6086 {l : Launch} {E : EE} (hl : l.stackTraces = false) {h : HP} {a4 : Int32} (c0 : 1000000000 < a4.toInt) : en_C l E M_X12_in 0 0 0 [.long (a4.toInt64), .long (Int64.ofInt (-1000000000)), .long (Int64.ofInt 1000000000)] h (pR (some (.int (Int32.ofInt 0))) h) := by
  refine en_mk m_X12_in rfl hl (Nat.le_of_ble_eq_true rfl) ?_
  refine x_lload_n (M := M_X12_in) dX12_in_0 rfl ?_
  refine x_lload_n (M := M_X12_in) dX12_in_1 rfl ?_
  refine x_lcmp (M := M_X12_in) dX12_in_2 ?_
  refine x_if_lt (M := M_X12_in) (tgt := 17) dX12_in_3 (by decide) (fun q => absurd ((bc_lt (i_i2l rfl) (by decide +kernel)).mp q) (by omega : ¬ (a4.toInt < (-1000000000)))) (fun _ => ?_)
  refine x_lload_n (M := M_X12_in) dX12_in_6 rfl ?_
  refine x_lload (M := M_X12_in) dX12_in_7 rfl ?_
  refine x_lcmp (M := M_X12_in) dX12_in_9 ?_
  refine x_if_gt (M := M_X12_in) (tgt := 17) dX12_in_10 (by decide) (fun _ => ?_) (fun q => absurd ((bc_gt (i_i2l rfl) (by decide +kernel)).mpr (by omega : (1000000000 < a4.toInt : Prop))) q)
  refine x_iconst (M := M_X12_in) dX12_in_17 ?_
  exact x_zret (M := M_X12_in) dX12_in_18 rfl (by decide) ⟨rfl, rfl⟩ (Nat.le_of_ble_eq_true rfl) (Nat.le_of_ble_eq_true rfl)
set_option maxRecDepth 10000 in
theorem q6087 {l : Launch} {E : EE} (hl : l.stackTraces = false) {h : HP} {a4 : Int32} (c0 : 1000000000 < a4.toInt) : en_C l E M_X12_isFar 1 0 0 [.long (a4.toInt64)] h (pR (some (.int (Int32.ofInt 0))) h) := by
  refine en_mk m_X12_isFar rfl hl (Nat.le_of_ble_eq_true rfl) ?_
  refine x_lload_n (M := M_X12_isFar) dX12_isFar_0 rfl ?_
  refine x_ldc2 (M := M_X12_isFar) dX12_isFar_1 t_3136 ?_
  refine x_ldc2 (M := M_X12_isFar) dX12_isFar_4 t_2937 ?_
  refine x_norm (M := M_X12_isFar) (st' := [.long (Int64.ofInt 1000000000), .long (Int64.ofInt (-1000000000)), .long (a4.toInt64)]) rfl (vj_cons (by decide +kernel : (1000000000 : Int64) = (Int64.ofInt 1000000000)) (vj_cons (by decide +kernel : (-1000000000 : Int64) = (Int64.ofInt (-1000000000))) rfl)) rfl rfl rfl ?_
  refine x_callSR (M := M_X12_isFar) (M' := M_X12_in) rfl rfl dX12_isFar_7 m_X12_in t_2818 t_2819 (q6086 hl c0) rfl rfl (Nat.le_of_ble_eq_true rfl) (Nat.le_of_ble_eq_true rfl) (Nat.le_of_ble_eq_true rfl) (Nat.le_of_ble_eq_true rfl) ?_
  exact x_zret (M := M_X12_isFar) dX12_isFar_10 rfl (by decide) ⟨rfl, rfl⟩ (Nat.le_of_ble_eq_true rfl) (Nat.le_of_ble_eq_true rfl)
set_option maxRecDepth 10000 in
theorem q6092 {l : Launch} {E : EE} (hl : l.stackTraces = false) {h : HP} {a0 : Int32} {a1 : Int32} {a2 : Int32} {a3 : Int32} {a4 : Int32} {dg : Int32} (c0 : ¬ (a0.toInt < 0)) (c1 : ¬ (2 < a0.toInt)) (c2 : ¬ (a1.toInt < (-1000000000))) (c3 : ¬ (a2.toInt < (-1000000000))) (c4 : ¬ (1000000000 < a3.toInt)) (c5 : 1000000000 < a4.toInt) (c6 : ¬ (1000000000 < a1.toInt)) (c7 : ¬ (1000000000 < a2.toInt)) (c8 : ¬ (a3.toInt < (-1000000000))) (o6080 : ob h 277 = some (.inr (15, (RB dg)))) : en_C l E M_X12_find 2 0 0 [.ref 277, .int a0, .int a1, .int a2, .int a3, .int a4] h (pF (some (.int (Int32.ofInt 0))) [277] h (fun h' => ob h' 277 = some (.inr (15, ((RB dg).set 0 (.int (Int32.ofInt 1))))) ∧ True)) := by
  refine en_mk m_X12_find rfl hl (Nat.le_of_ble_eq_true rfl) ?_
  refine x_aload_n (M := M_X12_find) dX12_find_0 rfl ?_
  refine x_iconst (M := M_X12_find) dX12_find_1 ?_
  refine y_put (M := M_X12_find) (ci := 15) (C := RX12) (T := TX12) (N := 135) (ty := tyX12) cl15 dX12_find_2 o6080 0 (by decide) t_2391 (Or.inl rfl) (Nat.le_of_ble_eq_true rfl) rfl (fun h6081 w6082 f6083 => ?_)
  refine x_iload_n (M := M_X12_find) dX12_find_5 rfl ?_
  refine x_i2l (M := M_X12_find) dX12_find_6 ?_
  refine x_lconst (M := M_X12_find) dX12_find_7 ?_
  refine x_ldc2 (M := M_X12_find) dX12_find_8 t_3091 ?_
  refine x_norm (M := M_X12_find) (st' := [.long (Int64.ofInt 2), .long (Int64.ofInt 0), .long (a0.toInt64)]) rfl (vj_cons (by decide +kernel : (2 : Int64) = (Int64.ofInt 2)) (vj_cons (by decide +kernel : (Int64.ofNat ((0 : Fin 2) : Nat)) = (Int64.ofInt 0)) rfl)) rfl rfl rfl ?_
  refine x_callSR (M := M_X12_find) (M' := M_X12_in) rfl rfl dX12_find_11 m_X12_in t_2818 t_2819 (q5833 hl c0 c1) rfl rfl (Nat.le_of_ble_eq_true rfl) (Nat.le_of_ble_eq_true rfl) (Nat.le_of_ble_eq_true rfl) (Nat.le_of_ble_eq_true rfl) ?_
  refine x_if_eq (M := M_X12_find) (tgt := 67) dX12_find_14 (by decide) (fun q => absurd q (by decide +kernel)) (fun _ => ?_)
  refine x_iload_n (M := M_X12_find) dX12_find_17 rfl ?_
  refine x_i2l (M := M_X12_find) dX12_find_18 ?_
  refine x_callSR (M := M_X12_find) (M' := M_X12_isFar) rfl rfl dX12_find_19 m_X12_isFar t_3133 t_3134 (q5646 hl c2 c6) rfl rfl (Nat.le_of_ble_eq_true rfl) (Nat.le_of_ble_eq_true rfl) (Nat.le_of_ble_eq_true rfl) (Nat.le_of_ble_eq_true rfl) ?_
  refine x_if_eq (M := M_X12_find) (tgt := 67) dX12_find_22 (by decide) (fun q => absurd q (by decide +kernel)) (fun _ => ?_)
  refine x_iload_n (M := M_X12_find) dX12_find_25 rfl ?_
  refine x_i2l (M := M_X12_find) dX12_find_26 ?_
  refine x_callSR (M := M_X12_find) (M' := M_X12_isFar) rfl rfl dX12_find_27 m_X12_isFar t_3133 t_3134 (q5972 hl c3 c7) rfl rfl (Nat.le_of_ble_eq_true rfl) (Nat.le_of_ble_eq_true rfl) (Nat.le_of_ble_eq_true rfl) (Nat.le_of_ble_eq_true rfl) ?_
  refine x_if_eq (M := M_X12_find) (tgt := 67) dX12_find_30 (by decide) (fun q => absurd q (by decide +kernel)) (fun _ => ?_)
  refine x_iload (M := M_X12_find) dX12_find_33 rfl ?_
  refine x_i2l (M := M_X12_find) dX12_find_35 ?_
  refine x_callSR (M := M_X12_find) (M' := M_X12_isFar) rfl rfl dX12_find_36 m_X12_isFar t_3133 t_3134 (q6085 hl c4 c8) rfl rfl (Nat.le_of_ble_eq_true rfl) (Nat.le_of_ble_eq_true rfl) (Nat.le_of_ble_eq_true rfl) (Nat.le_of_ble_eq_true rfl) ?_
  refine x_if_eq (M := M_X12_find) (tgt := 67) dX12_find_39 (by decide) (fun q => absurd q (by decide +kernel)) (fun _ => ?_)
  refine x_iload (M := M_X12_find) dX12_find_42 rfl ?_
  refine x_i2l (M := M_X12_find) dX12_find_44 ?_
  refine x_callSR (M := M_X12_find) (M' := M_X12_isFar) rfl rfl dX12_find_45 m_X12_isFar t_3133 t_3134 (q6087 hl c5) rfl rfl (Nat.le_of_ble_eq_true rfl) (Nat.le_of_ble_eq_true rfl) (Nat.le_of_ble_eq_true rfl) (Nat.le_of_ble_eq_true rfl) ?_
  refine x_if_eq (M := M_X12_find) (tgt := 67) dX12_find_48 (by decide) (fun _ => ?_) (fun q => absurd q (by decide +kernel))
  refine x_iconst (M := M_X12_find) dX12_find_67 ?_
  refine x_istore (M := M_X12_find) dX12_find_68 (Nat.le_of_ble_eq_true rfl) rfl ?_
  refine x_aload_n (M := M_X12_find) dX12_find_70 rfl ?_
  refine x_iload (M := M_X12_find) dX12_find_71 rfl ?_
  refine x_if_ne (M := M_X12_find) (tgt := 80) dX12_find_73 (by decide) (fun q => absurd q (by decide +kernel)) (fun _ => ?_)
  refine x_iconst (M := M_X12_find) dX12_find_76 ?_
  refine x_goto (M := M_X12_find) (tgt := 81) dX12_find_77 (by decide) ?_
  refine x_iconst (M := M_X12_find) dX12_find_81 ?_
  refine y_callVR (M := M_X12_find) (M' := M_X12_fails) rfl rfl dX12_find_82 m_X12_fails t_2805 t_2807 s_157 (q22 hl w6082) rfl rfl w6082 rfl (Nat.le_of_ble_eq_true rfl) (Nat.le_of_ble_eq_true rfl) (Nat.le_of_ble_eq_true rfl) (Nat.le_of_ble_eq_true rfl) (fun h6088 f6089 w6090 => ?_)
  obtain ⟨o6091, -⟩ := w6090
  refine x_if_eq (M := M_X12_find) (tgt := 90) dX12_find_85 (by decide) (fun q => absurd q (by decide +kernel)) (fun _ => ?_)
  refine x_iconst (M := M_X12_find) dX12_find_88 ?_
  exact x_iret (M := M_X12_find) dX12_find_89 rfl ⟨rfl, (fr_tr f6089 (by decide) (fr_tr f6083 (by decide) fr_rf)), ⟨o6091, trivial⟩⟩ (Nat.le_of_ble_eq_true rfl) (Nat.le_of_ble_eq_true rfl)
set_option maxRecDepth 10000 in
theorem lc23_11 {l : Launch} {E : EE} (hl : l.stackTraces = false) (nm : String) {xs : Nat → Int32} (hx : E.2.2.2.2 0 = some (7, xs)) {h : HP} {a0 : Int32} {a1 : Int32} {a2 : Int32} {a3 : Int32} {a4 : Int32} {dg : Int32} (e2 : xs 2 = a0) (e3 : xs 3 = a1) (e4 : xs 4 = a2) (e5 : xs 5 = a3) (e6 : xs 6 = a4) (c0 : ¬ (a0.toInt < 0)) (c1 : ¬ (2 < a0.toInt)) (c2 : ¬ (a1.toInt < (-1000000000))) (c3 : ¬ (a2.toInt < (-1000000000))) (c4 : ¬ (1000000000 < a3.toInt)) (c5 : 1000000000 < a4.toInt) (c6 : ¬ (1000000000 < a1.toInt)) (c7 : ¬ (1000000000 < a2.toInt)) (c8 : ¬ (a3.toInt < (-1000000000))) (o6076 : ob h 32 = some (.inr (14, [.ref 33, .ref 162, .ref 166, .int (0 : Int32), .int (0 : Int32), .int (0 : Int32), .ref 167, .ref 170, .ref 173, .ref 177, .ref 193, .ref 208, .ref 222, .ref 238, .ref 252, .ref 274, .ref 275, .ref 276, .int (0 : Int32)]))) (o6093 : ob h 277 = some (.inr (15, (RB dg)))) : XX l E (M_law nm) 1312 342628 8074320 (fun o _ => o = .inl (some (.int 1))) 1697 [some (.ref 0), some (.ref 32), some (.ref 277), some (.ref 359), some (.int (Int32.ofInt 1)), none, none, none] [] h 328 2463747 := by
  refine x_aload_n (M := (M_law nm)) dL_law_1697 rfl ?_
  refine x_aload_n (M := (M_law nm)) dL_law_1698 rfl ?_
  refine x_iload (M := (M_law nm)) dL_law_1699 rfl ?_
  refine x_iconst (M := (M_law nm)) dL_law_1701 ?_
  refine x_iadd (M := (M_law nm)) dL_law_1702 ?_
  refine x_sald (M := (M_law nm)) dL_law_1703 (by decide) hx (vp_inD (by decide +kernel)) ?_
  refine x_top (M := (M_law nm)) (y := a0) ((congrArg xs (by decide +kernel : ((Int32.ofInt 1) + (Int32.ofInt 1)).toNatClampNeg = 2)).trans e2) ?_
  refine x_aload_n (M := (M_law nm)) dL_law_1704 rfl ?_
  refine x_iload (M := (M_law nm)) dL_law_1705 rfl ?_
  refine x_iconst (M := (M_law nm)) dL_law_1707 ?_
  refine x_iadd (M := (M_law nm)) dL_law_1708 ?_
  refine x_sald (M := (M_law nm)) dL_law_1709 (by decide) hx (vp_inD (by decide +kernel)) ?_
  refine x_top (M := (M_law nm)) (y := a1) ((congrArg xs (by decide +kernel : ((Int32.ofInt 1) + (Int32.ofInt 2)).toNatClampNeg = 3)).trans e3) ?_
  refine x_aload_n (M := (M_law nm)) dL_law_1710 rfl ?_
  refine x_iload (M := (M_law nm)) dL_law_1711 rfl ?_
  refine x_iconst (M := (M_law nm)) dL_law_1713 ?_
  refine x_iadd (M := (M_law nm)) dL_law_1714 ?_
  refine x_sald (M := (M_law nm)) dL_law_1715 (by decide) hx (vp_inD (by decide +kernel)) ?_
  refine x_top (M := (M_law nm)) (y := a2) ((congrArg xs (by decide +kernel : ((Int32.ofInt 1) + (Int32.ofInt 3)).toNatClampNeg = 4)).trans e4) ?_
  refine x_aload_n (M := (M_law nm)) dL_law_1716 rfl ?_
  refine x_iload (M := (M_law nm)) dL_law_1717 rfl ?_
  refine x_iconst (M := (M_law nm)) dL_law_1719 ?_
  refine x_iadd (M := (M_law nm)) dL_law_1720 ?_
  refine x_sald (M := (M_law nm)) dL_law_1721 (by decide) hx (vp_inD (by decide +kernel)) ?_
  refine x_top (M := (M_law nm)) (y := a3) ((congrArg xs (by decide +kernel : ((Int32.ofInt 1) + (Int32.ofInt 4)).toNatClampNeg = 5)).trans e5) ?_
  refine x_aload_n (M := (M_law nm)) dL_law_1722 rfl ?_
  refine x_iload (M := (M_law nm)) dL_law_1723 rfl ?_
  refine x_iconst (M := (M_law nm)) dL_law_1725 ?_
  refine x_iadd (M := (M_law nm)) dL_law_1726 ?_
  refine x_sald (M := (M_law nm)) dL_law_1727 (by decide) hx (vp_inD (by decide +kernel)) ?_
  refine x_top (M := (M_law nm)) (y := a4) ((congrArg xs (by decide +kernel : ((Int32.ofInt 1) + (Int32.ofInt 5)).toNatClampNeg = 6)).trans e6) ?_
  refine x_aload_n (M := (M_law nm)) dL_law_1728 rfl ?_
  refine y_callSW (M := (M_law nm)) (M' := M_L_find) rfl rfl dL_law_1729 m_L_find t_2242 t_2243 (q5992 hl c0 c1 c2 c3 c4 c5 o6076) rfl rfl (Nat.le_of_ble_eq_true rfl) (Nat.le_of_ble_eq_true rfl) (Nat.le_of_ble_eq_true rfl) (Nat.le_of_ble_eq_true rfl) (fun h6077 f6078 w6079 => ?_)
  refine x_istore (M := (M_law nm)) dL_law_1732 (Nat.le_of_ble_eq_true rfl) rfl ?_
  refine x_aload_n (M := (M_law nm)) dL_law_1734 rfl ?_
  refine x_aload_n (M := (M_law nm)) dL_law_1735 rfl ?_
  refine x_iload (M := (M_law nm)) dL_law_1736 rfl ?_
  refine x_iconst (M := (M_law nm)) dL_law_1738 ?_
  refine x_iadd (M := (M_law nm)) dL_law_1739 ?_
  refine x_sald (M := (M_law nm)) dL_law_1740 (by decide) hx (vp_inD (by decide +kernel)) ?_
  refine x_top (M := (M_law nm)) (y := a0) ((congrArg xs (by decide +kernel : ((Int32.ofInt 1) + (Int32.ofInt 1)).toNatClampNeg = 2)).trans e2) ?_
  refine x_aload_n (M := (M_law nm)) dL_law_1741 rfl ?_
  refine x_iload (M := (M_law nm)) dL_law_1742 rfl ?_
  refine x_iconst (M := (M_law nm)) dL_law_1744 ?_
  refine x_iadd (M := (M_law nm)) dL_law_1745 ?_
  refine x_sald (M := (M_law nm)) dL_law_1746 (by decide) hx (vp_inD (by decide +kernel)) ?_
  refine x_top (M := (M_law nm)) (y := a1) ((congrArg xs (by decide +kernel : ((Int32.ofInt 1) + (Int32.ofInt 2)).toNatClampNeg = 3)).trans e3) ?_
  refine x_aload_n (M := (M_law nm)) dL_law_1747 rfl ?_
  refine x_iload (M := (M_law nm)) dL_law_1748 rfl ?_
  refine x_iconst (M := (M_law nm)) dL_law_1750 ?_
  refine x_iadd (M := (M_law nm)) dL_law_1751 ?_
  refine x_sald (M := (M_law nm)) dL_law_1752 (by decide) hx (vp_inD (by decide +kernel)) ?_
  refine x_top (M := (M_law nm)) (y := a2) ((congrArg xs (by decide +kernel : ((Int32.ofInt 1) + (Int32.ofInt 3)).toNatClampNeg = 4)).trans e4) ?_
  refine x_aload_n (M := (M_law nm)) dL_law_1753 rfl ?_
  refine x_iload (M := (M_law nm)) dL_law_1754 rfl ?_
  refine x_iconst (M := (M_law nm)) dL_law_1756 ?_
  refine x_iadd (M := (M_law nm)) dL_law_1757 ?_
  refine x_sald (M := (M_law nm)) dL_law_1758 (by decide) hx (vp_inD (by decide +kernel)) ?_
  refine x_top (M := (M_law nm)) (y := a3) ((congrArg xs (by decide +kernel : ((Int32.ofInt 1) + (Int32.ofInt 4)).toNatClampNeg = 5)).trans e5) ?_
  refine x_aload_n (M := (M_law nm)) dL_law_1759 rfl ?_
  refine x_iload (M := (M_law nm)) dL_law_1760 rfl ?_
  refine x_iconst (M := (M_law nm)) dL_law_1762 ?_
  refine x_iadd (M := (M_law nm)) dL_law_1763 ?_
  refine x_sald (M := (M_law nm)) dL_law_1764 (by decide) hx (vp_inD (by decide +kernel)) ?_
  refine x_top (M := (M_law nm)) (y := a4) ((congrArg xs (by decide +kernel : ((Int32.ofInt 1) + (Int32.ofInt 5)).toNatClampNeg = 6)).trans e6) ?_
  have o6094 := (f6078 277 _ (by decide) o6093)
  refine y_callVR (M := (M_law nm)) (M' := M_X12_find) rfl rfl dL_law_1765 m_X12_find t_3129 t_3130 t_3131 (q6092 hl c0 c1 c2 c3 c4 c5 c6 c7 c8 o6094) rfl rfl o6094 rfl (Nat.le_of_ble_eq_true rfl) (Nat.le_of_ble_eq_true rfl) (Nat.le_of_ble_eq_true rfl) (Nat.le_of_ble_eq_true rfl) (fun h6095 f6096 w6097 => ?_)
  obtain ⟨o6098, -⟩ := w6097
  refine x_istore (M := (M_law nm)) dL_law_1768 (Nat.le_of_ble_eq_true rfl) rfl ?_
  refine x_aload_n (M := (M_law nm)) dL_law_1770 rfl ?_
  refine x_callVR (M := (M_law nm)) (M' := M_X12_thrown) rfl rfl dL_law_1771 m_X12_thrown t_2797 t_2798 t_2799 (q35 hl o6098) rfl rfl o6098 rfl (Nat.le_of_ble_eq_true rfl) (Nat.le_of_ble_eq_true rfl) (Nat.le_of_ble_eq_true rfl) (Nat.le_of_ble_eq_true rfl) ?_
  refine x_iload (M := (M_law nm)) dL_law_1774 rfl ?_
  refine x_icmp_eq (M := (M_law nm)) (tgt := 1781) dL_law_1776 (by decide) (fun _ => ?_) (fun q => absurd q (by decide +kernel))
  refine x_iload (M := (M_law nm)) dL_law_1781 rfl ?_
  refine x_if_ne (M := (M_law nm)) (tgt := 1798) dL_law_1783 (by decide) (fun _ => ?_) (fun q => absurd q (by decide +kernel))
  refine x_goto (M := (M_law nm)) (tgt := 2449) dL_law_1798 (by decide) ?_
  refine x_iinc (M := (M_law nm)) dL_law_2449 rfl (Nat.le_of_ble_eq_true rfl) rfl ?_
  refine x_lvs (M := (M_law nm)) (lv' := [some (.ref 0), some (.ref 32), some (.ref 277), some (.ref 359), some (.int (Int32.ofInt 7)), some (.int (Int32.ofInt 1)), some (.int (Int32.ofInt 0)), none]) (by rw [(by decide +kernel : (Int32.ofInt 1) + Int32.ofInt 6 = (Int32.ofInt 7))] <;> rfl) ?_
  refine x_goto (M := (M_law nm)) (tgt := 33) dL_law_2452 (by decide) ?_
  refine x_iload (M := (M_law nm)) dL_law_33 rfl ?_
  refine x_aload_n (M := (M_law nm)) dL_law_35 rfl ?_
  refine x_slen (M := (M_law nm)) dL_law_36 (by decide) hx ?_
  refine x_bipush (M := (M_law nm)) dL_law_37 ?_
  refine x_isub (M := (M_law nm)) dL_law_39 ?_
  refine x_icmp_gt (M := (M_law nm)) (tgt := 2455) dL_law_40 (by decide) (fun _ => ?_) (fun q => absurd q (by decide +kernel))
  refine x_iconst (M := (M_law nm)) dL_law_2455 ?_
  exact x_zret (M := (M_law nm)) dL_law_2456 rfl (by decide) rfl (Nat.le_of_ble_eq_true rfl) (Nat.le_of_ble_eq_true rfl)
set_option maxRecDepth 10000 in
theorem q6100 {l : Launch} {E : EE} (hl : l.stackTraces = false) {h : HP} {a0 : Int32} {a1 : Int32} {a2 : Int32} {a3 : Int32} {a4 : Int32} (c0 : ¬ (a0.toInt < 0)) (c1 : ¬ (2 < a0.toInt)) (c2 : ¬ (a1.toInt < (-1000000000))) (c3 : ¬ (a2.toInt < (-1000000000))) (c4 : ¬ (1000000000 < a3.toInt)) (c5 : ¬ (1000000000 < a4.toInt)) (c6 : a3.toInt < a1.toInt) : en_C l E M_X11_find 6 1 6 [.ref 32, .int a0, .int a1, .int a2, .int a3, .int a4] h (pT "java/lang/IllegalArgumentException" [] h (fun _ => True)) := by
  refine en_mk m_X11_find rfl hl (Nat.le_of_ble_eq_true rfl) ?_
  refine x_iload_n (M := M_X11_find) dX11_find_0 rfl ?_
  refine x_if_lt (M := M_X11_find) (tgt := 51) dX11_find_1 (by decide) (fun q => absurd ((bi_lt rfl (by decide +kernel)).mp q) (by omega : ¬ (a0.toInt < 0))) (fun _ => ?_)
  refine x_iload_n (M := M_X11_find) dX11_find_4 rfl ?_
  refine x_iconst (M := M_X11_find) dX11_find_5 ?_
  refine x_icmp_gt (M := M_X11_find) (tgt := 51) dX11_find_6 (by decide) (fun q => absurd ((bi_lt (by decide +kernel) rfl).mp q) (by omega : ¬ (2 < a0.toInt))) (fun _ => ?_)
  refine x_iload_n (M := M_X11_find) dX11_find_9 rfl ?_
  refine x_ldcw (M := M_X11_find) dX11_find_10 t_2249 ?_
  refine x_icmp_lt (M := M_X11_find) (tgt := 51) dX11_find_13 (by decide) (fun q => absurd ((bi_lt rfl (by decide +kernel)).mp q) (by omega : ¬ (a1.toInt < (-1000000000)))) (fun _ => ?_)
  refine x_iload_n (M := M_X11_find) dX11_find_16 rfl ?_
  refine x_ldcw (M := M_X11_find) dX11_find_17 t_2249 ?_
  refine x_icmp_lt (M := M_X11_find) (tgt := 51) dX11_find_20 (by decide) (fun q => absurd ((bi_lt rfl (by decide +kernel)).mp q) (by omega : ¬ (a2.toInt < (-1000000000)))) (fun _ => ?_)
  refine x_iload (M := M_X11_find) dX11_find_23 rfl ?_
  refine x_ldcw (M := M_X11_find) dX11_find_25 t_2191 ?_
  refine x_icmp_gt (M := M_X11_find) (tgt := 51) dX11_find_28 (by decide) (fun q => absurd ((bi_lt (by decide +kernel) rfl).mp q) (by omega : ¬ (1000000000 < a3.toInt))) (fun _ => ?_)
  refine x_iload (M := M_X11_find) dX11_find_31 rfl ?_
  refine x_ldcw (M := M_X11_find) dX11_find_33 t_2191 ?_
  refine x_icmp_gt (M := M_X11_find) (tgt := 51) dX11_find_36 (by decide) (fun q => absurd ((bi_lt (by decide +kernel) rfl).mp q) (by omega : ¬ (1000000000 < a4.toInt))) (fun _ => ?_)
  refine x_iload (M := M_X11_find) dX11_find_39 rfl ?_
  refine x_iload_n (M := M_X11_find) dX11_find_41 rfl ?_
  refine x_icmp_lt (M := M_X11_find) (tgt := 51) dX11_find_42 (by decide) (fun _ => ?_) (fun q => absurd ((bi_lt rfl rfl).mpr (by omega : (a3.toInt < a1.toInt : Prop))) q)
  exact x_throw (M := M_X11_find) (names := en_nm) rfl dX11_find_51 dX11_find_54 dX11_find_55 dX11_find_58 (by decide +kernel) en_nm_ok (Or.inl t_721) (Or.inl t_19) (at_X11_IllegalArgumentException_118) (Nat.le_of_ble_eq_true rfl) (Nat.le_of_ble_eq_true rfl) (Nat.le_of_ble_eq_true rfl) (Nat.le_of_ble_eq_true rfl) (fun n9 => ⟨rfl, (fr_tr (fr_app (List.replicate n9 none)) (fun _ h => nomatch h) fr_rf), trivial⟩)
set_option maxRecDepth 10000 in
theorem q6105 {l : Launch} {E : EE} (hl : l.stackTraces = false) {h : HP} {a0 : Int32} {a1 : Int32} {a2 : Int32} {a3 : Int32} {a4 : Int32} (c0 : ¬ (a0.toInt < 0)) (c1 : ¬ (2 < a0.toInt)) (c2 : ¬ (a1.toInt < (-1000000000))) (c3 : ¬ (a2.toInt < (-1000000000))) (c4 : ¬ (1000000000 < a3.toInt)) (c5 : ¬ (1000000000 < a4.toInt)) (c6 : a3.toInt < a1.toInt) (o6101 : ob h 32 = some (.inr (14, [.ref 33, .ref 162, .ref 166, .int (0 : Int32), .int (0 : Int32), .int (0 : Int32), .ref 167, .ref 170, .ref 173, .ref 177, .ref 193, .ref 208, .ref 222, .ref 238, .ref 252, .ref 274, .ref 275, .ref 276, .int (0 : Int32)]))) : en_C l E M_L_find 7 1 6 [.ref 32, .int a0, .int a1, .int a2, .int a3, .int a4, .ref 359] h (pF (some (.int (Int32.ofInt 1))) [] h (fun _ => True)) := by
  refine en_mkW m_L_find rfl hl (Nat.le_of_ble_eq_true rfl) ?_
  refine x_aload (M := M_L_find) dL_find_0 rfl ?_
  refine x_iconst (M := M_L_find) dL_find_2 ?_
  refine x_aload_n (M := M_L_find) dL_find_3 rfl ?_
  refine x_iload_n (M := M_L_find) dL_find_4 rfl ?_
  refine x_iload_n (M := M_L_find) dL_find_5 rfl ?_
  refine x_iload_n (M := M_L_find) dL_find_6 rfl ?_
  refine x_iload (M := M_L_find) dL_find_7 rfl ?_
  refine x_iload (M := M_L_find) dL_find_9 rfl ?_
  refine y_callVHX (M := M_L_find) (M' := M_X11_find) (i9 := 7) (nx := 21) rfl dL_find_11 m_X11_find t_2245 t_2246 t_2247 o6101 rfl (q6100 hl c0 c1 c2 c3 c4 c5 c6) rfl rfl (Nat.le_of_ble_eq_true rfl) (Nat.le_of_ble_eq_true rfl) (Nat.le_of_ble_eq_true rfl) (Nat.le_of_ble_eq_true rfl) (en_hdm (k0 := 7) [] [] rfl (fun _ h => nomatch h) (by decide +kernel) (by decide) t_716 n_723 dL_find_19) (by decide) rfl (fun h6102 f6103 w6104 => ?_)
  refine x_iconst (M := M_L_find) dL_find_21 ?_
  exact x_iret (M := M_L_find) dL_find_22 rfl ⟨rfl, (fr_tr f6103 (fun _ h => nomatch h) fr_rf), trivial⟩ (Nat.le_of_ble_eq_true rfl) (Nat.le_of_ble_eq_true rfl)
set_option maxRecDepth 10000 in
theorem q6126 {l : Launch} {E : EE} (hl : l.stackTraces = false) {h : HP} {a0 : Int32} {a1 : Int32} {a2 : Int32} {a3 : Int32} {a4 : Int32} {dg : Int32} (c0 : ¬ (a0.toInt < 0)) (c1 : ¬ (2 < a0.toInt)) (c2 : ¬ (a1.toInt < (-1000000000))) (c3 : ¬ (a2.toInt < (-1000000000))) (c4 : ¬ (1000000000 < a3.toInt)) (c5 : ¬ (1000000000 < a4.toInt)) (c6 : a3.toInt < a1.toInt) (c7 : 1000000000 < a1.toInt) (o6118 : ob h 277 = some (.inr (15, (RB dg)))) : en_C l E M_X12_find 2 0 0 [.ref 277, .int a0, .int a1, .int a2, .int a3, .int a4] h (pF (some (.int (Int32.ofInt 0))) [277] h (fun h' => ob h' 277 = some (.inr (15, ((RB dg).set 0 (.int (Int32.ofInt 1))))) ∧ True)) := by
  refine en_mk m_X12_find rfl hl (Nat.le_of_ble_eq_true rfl) ?_
  refine x_aload_n (M := M_X12_find) dX12_find_0 rfl ?_
  refine x_iconst (M := M_X12_find) dX12_find_1 ?_
  refine y_put (M := M_X12_find) (ci := 15) (C := RX12) (T := TX12) (N := 135) (ty := tyX12) cl15 dX12_find_2 o6118 0 (by decide) t_2391 (Or.inl rfl) (Nat.le_of_ble_eq_true rfl) rfl (fun h6119 w6120 f6121 => ?_)
  refine x_iload_n (M := M_X12_find) dX12_find_5 rfl ?_
  refine x_i2l (M := M_X12_find) dX12_find_6 ?_
  refine x_lconst (M := M_X12_find) dX12_find_7 ?_
  refine x_ldc2 (M := M_X12_find) dX12_find_8 t_3091 ?_
  refine x_norm (M := M_X12_find) (st' := [.long (Int64.ofInt 2), .long (Int64.ofInt 0), .long (a0.toInt64)]) rfl (vj_cons (by decide +kernel : (2 : Int64) = (Int64.ofInt 2)) (vj_cons (by decide +kernel : (Int64.ofNat ((0 : Fin 2) : Nat)) = (Int64.ofInt 0)) rfl)) rfl rfl rfl ?_
  refine x_callSR (M := M_X12_find) (M' := M_X12_in) rfl rfl dX12_find_11 m_X12_in t_2818 t_2819 (q5833 hl c0 c1) rfl rfl (Nat.le_of_ble_eq_true rfl) (Nat.le_of_ble_eq_true rfl) (Nat.le_of_ble_eq_true rfl) (Nat.le_of_ble_eq_true rfl) ?_
  refine x_if_eq (M := M_X12_find) (tgt := 67) dX12_find_14 (by decide) (fun q => absurd q (by decide +kernel)) (fun _ => ?_)
  refine x_iload_n (M := M_X12_find) dX12_find_17 rfl ?_
  refine x_i2l (M := M_X12_find) dX12_find_18 ?_
  refine x_callSR (M := M_X12_find) (M' := M_X12_isFar) rfl rfl dX12_find_19 m_X12_isFar t_3133 t_3134 (q5442 hl c2 c7) rfl rfl (Nat.le_of_ble_eq_true rfl) (Nat.le_of_ble_eq_true rfl) (Nat.le_of_ble_eq_true rfl) (Nat.le_of_ble_eq_true rfl) ?_
  refine x_if_eq (M := M_X12_find) (tgt := 67) dX12_find_22 (by decide) (fun _ => ?_) (fun q => absurd q (by decide +kernel))
  refine x_iconst (M := M_X12_find) dX12_find_67 ?_
  refine x_istore (M := M_X12_find) dX12_find_68 (Nat.le_of_ble_eq_true rfl) rfl ?_
  refine x_aload_n (M := M_X12_find) dX12_find_70 rfl ?_
  refine x_iload (M := M_X12_find) dX12_find_71 rfl ?_
  refine x_if_ne (M := M_X12_find) (tgt := 80) dX12_find_73 (by decide) (fun q => absurd q (by decide +kernel)) (fun _ => ?_)
  refine x_iconst (M := M_X12_find) dX12_find_76 ?_
  refine x_goto (M := M_X12_find) (tgt := 81) dX12_find_77 (by decide) ?_
  refine x_iconst (M := M_X12_find) dX12_find_81 ?_
  refine y_callVR (M := M_X12_find) (M' := M_X12_fails) rfl rfl dX12_find_82 m_X12_fails t_2805 t_2807 s_157 (q22 hl w6120) rfl rfl w6120 rfl (Nat.le_of_ble_eq_true rfl) (Nat.le_of_ble_eq_true rfl) (Nat.le_of_ble_eq_true rfl) (Nat.le_of_ble_eq_true rfl) (fun h6122 f6123 w6124 => ?_)
  obtain ⟨o6125, -⟩ := w6124
  refine x_if_eq (M := M_X12_find) (tgt := 90) dX12_find_85 (by decide) (fun q => absurd q (by decide +kernel)) (fun _ => ?_)
  refine x_iconst (M := M_X12_find) dX12_find_88 ?_
  exact x_iret (M := M_X12_find) dX12_find_89 rfl ⟨rfl, (fr_tr f6123 (by decide) (fr_tr f6121 (by decide) fr_rf)), ⟨o6125, trivial⟩⟩ (Nat.le_of_ble_eq_true rfl) (Nat.le_of_ble_eq_true rfl)
set_option maxRecDepth 10000 in
theorem lc23_12 {l : Launch} {E : EE} (hl : l.stackTraces = false) (nm : String) {xs : Nat → Int32} (hx : E.2.2.2.2 0 = some (7, xs)) {h : HP} {a0 : Int32} {a1 : Int32} {a2 : Int32} {a3 : Int32} {a4 : Int32} {dg : Int32} (e2 : xs 2 = a0) (e3 : xs 3 = a1) (e4 : xs 4 = a2) (e5 : xs 5 = a3) (e6 : xs 6 = a4) (c0 : ¬ (a0.toInt < 0)) (c1 : ¬ (2 < a0.toInt)) (c2 : ¬ (a1.toInt < (-1000000000))) (c3 : ¬ (a2.toInt < (-1000000000))) (c4 : ¬ (1000000000 < a3.toInt)) (c5 : ¬ (1000000000 < a4.toInt)) (c6 : a3.toInt < a1.toInt) (c7 : 1000000000 < a1.toInt) (o6114 : ob h 32 = some (.inr (14, [.ref 33, .ref 162, .ref 166, .int (0 : Int32), .int (0 : Int32), .int (0 : Int32), .ref 167, .ref 170, .ref 173, .ref 177, .ref 193, .ref 208, .ref 222, .ref 238, .ref 252, .ref 274, .ref 275, .ref 276, .int (0 : Int32)]))) (o6127 : ob h 277 = some (.inr (15, (RB dg)))) : XX l E (M_law nm) 1312 342628 8074320 (fun o _ => o = .inl (some (.int 1))) 1697 [some (.ref 0), some (.ref 32), some (.ref 277), some (.ref 359), some (.int (Int32.ofInt 1)), none, none, none] [] h 328 2463747 := by
  refine x_aload_n (M := (M_law nm)) dL_law_1697 rfl ?_
  refine x_aload_n (M := (M_law nm)) dL_law_1698 rfl ?_
  refine x_iload (M := (M_law nm)) dL_law_1699 rfl ?_
  refine x_iconst (M := (M_law nm)) dL_law_1701 ?_
  refine x_iadd (M := (M_law nm)) dL_law_1702 ?_
  refine x_sald (M := (M_law nm)) dL_law_1703 (by decide) hx (vp_inD (by decide +kernel)) ?_
  refine x_top (M := (M_law nm)) (y := a0) ((congrArg xs (by decide +kernel : ((Int32.ofInt 1) + (Int32.ofInt 1)).toNatClampNeg = 2)).trans e2) ?_
  refine x_aload_n (M := (M_law nm)) dL_law_1704 rfl ?_
  refine x_iload (M := (M_law nm)) dL_law_1705 rfl ?_
  refine x_iconst (M := (M_law nm)) dL_law_1707 ?_
  refine x_iadd (M := (M_law nm)) dL_law_1708 ?_
  refine x_sald (M := (M_law nm)) dL_law_1709 (by decide) hx (vp_inD (by decide +kernel)) ?_
  refine x_top (M := (M_law nm)) (y := a1) ((congrArg xs (by decide +kernel : ((Int32.ofInt 1) + (Int32.ofInt 2)).toNatClampNeg = 3)).trans e3) ?_
  refine x_aload_n (M := (M_law nm)) dL_law_1710 rfl ?_
  refine x_iload (M := (M_law nm)) dL_law_1711 rfl ?_
  refine x_iconst (M := (M_law nm)) dL_law_1713 ?_
  refine x_iadd (M := (M_law nm)) dL_law_1714 ?_
  refine x_sald (M := (M_law nm)) dL_law_1715 (by decide) hx (vp_inD (by decide +kernel)) ?_
  refine x_top (M := (M_law nm)) (y := a2) ((congrArg xs (by decide +kernel : ((Int32.ofInt 1) + (Int32.ofInt 3)).toNatClampNeg = 4)).trans e4) ?_
  refine x_aload_n (M := (M_law nm)) dL_law_1716 rfl ?_
  refine x_iload (M := (M_law nm)) dL_law_1717 rfl ?_
  refine x_iconst (M := (M_law nm)) dL_law_1719 ?_
  refine x_iadd (M := (M_law nm)) dL_law_1720 ?_
  refine x_sald (M := (M_law nm)) dL_law_1721 (by decide) hx (vp_inD (by decide +kernel)) ?_
  refine x_top (M := (M_law nm)) (y := a3) ((congrArg xs (by decide +kernel : ((Int32.ofInt 1) + (Int32.ofInt 4)).toNatClampNeg = 5)).trans e5) ?_
  refine x_aload_n (M := (M_law nm)) dL_law_1722 rfl ?_
  refine x_iload (M := (M_law nm)) dL_law_1723 rfl ?_
  refine x_iconst (M := (M_law nm)) dL_law_1725 ?_
  refine x_iadd (M := (M_law nm)) dL_law_1726 ?_
  refine x_sald (M := (M_law nm)) dL_law_1727 (by decide) hx (vp_inD (by decide +kernel)) ?_
  refine x_top (M := (M_law nm)) (y := a4) ((congrArg xs (by decide +kernel : ((Int32.ofInt 1) + (Int32.ofInt 5)).toNatClampNeg = 6)).trans e6) ?_
  refine x_aload_n (M := (M_law nm)) dL_law_1728 rfl ?_
  refine y_callSW (M := (M_law nm)) (M' := M_L_find) rfl rfl dL_law_1729 m_L_find t_2242 t_2243 (q6105 hl c0 c1 c2 c3 c4 c5 c6 o6114) rfl rfl (Nat.le_of_ble_eq_true rfl) (Nat.le_of_ble_eq_true rfl) (Nat.le_of_ble_eq_true rfl) (Nat.le_of_ble_eq_true rfl) (fun h6115 f6116 w6117 => ?_)
  refine x_istore (M := (M_law nm)) dL_law_1732 (Nat.le_of_ble_eq_true rfl) rfl ?_
  refine x_aload_n (M := (M_law nm)) dL_law_1734 rfl ?_
  refine x_aload_n (M := (M_law nm)) dL_law_1735 rfl ?_
  refine x_iload (M := (M_law nm)) dL_law_1736 rfl ?_
  refine x_iconst (M := (M_law nm)) dL_law_1738 ?_
  refine x_iadd (M := (M_law nm)) dL_law_1739 ?_
  refine x_sald (M := (M_law nm)) dL_law_1740 (by decide) hx (vp_inD (by decide +kernel)) ?_
  refine x_top (M := (M_law nm)) (y := a0) ((congrArg xs (by decide +kernel : ((Int32.ofInt 1) + (Int32.ofInt 1)).toNatClampNeg = 2)).trans e2) ?_
  refine x_aload_n (M := (M_law nm)) dL_law_1741 rfl ?_
  refine x_iload (M := (M_law nm)) dL_law_1742 rfl ?_
  refine x_iconst (M := (M_law nm)) dL_law_1744 ?_
  refine x_iadd (M := (M_law nm)) dL_law_1745 ?_
  refine x_sald (M := (M_law nm)) dL_law_1746 (by decide) hx (vp_inD (by decide +kernel)) ?_
  refine x_top (M := (M_law nm)) (y := a1) ((congrArg xs (by decide +kernel : ((Int32.ofInt 1) + (Int32.ofInt 2)).toNatClampNeg = 3)).trans e3) ?_
  refine x_aload_n (M := (M_law nm)) dL_law_1747 rfl ?_
  refine x_iload (M := (M_law nm)) dL_law_1748 rfl ?_
  refine x_iconst (M := (M_law nm)) dL_law_1750 ?_
  refine x_iadd (M := (M_law nm)) dL_law_1751 ?_
  refine x_sald (M := (M_law nm)) dL_law_1752 (by decide) hx (vp_inD (by decide +kernel)) ?_
  refine x_top (M := (M_law nm)) (y := a2) ((congrArg xs (by decide +kernel : ((Int32.ofInt 1) + (Int32.ofInt 3)).toNatClampNeg = 4)).trans e4) ?_
  refine x_aload_n (M := (M_law nm)) dL_law_1753 rfl ?_
  refine x_iload (M := (M_law nm)) dL_law_1754 rfl ?_
  refine x_iconst (M := (M_law nm)) dL_law_1756 ?_
  refine x_iadd (M := (M_law nm)) dL_law_1757 ?_
  refine x_sald (M := (M_law nm)) dL_law_1758 (by decide) hx (vp_inD (by decide +kernel)) ?_
  refine x_top (M := (M_law nm)) (y := a3) ((congrArg xs (by decide +kernel : ((Int32.ofInt 1) + (Int32.ofInt 4)).toNatClampNeg = 5)).trans e5) ?_
  refine x_aload_n (M := (M_law nm)) dL_law_1759 rfl ?_
  refine x_iload (M := (M_law nm)) dL_law_1760 rfl ?_
  refine x_iconst (M := (M_law nm)) dL_law_1762 ?_
  refine x_iadd (M := (M_law nm)) dL_law_1763 ?_
  refine x_sald (M := (M_law nm)) dL_law_1764 (by decide) hx (vp_inD (by decide +kernel)) ?_
  refine x_top (M := (M_law nm)) (y := a4) ((congrArg xs (by decide +kernel : ((Int32.ofInt 1) + (Int32.ofInt 5)).toNatClampNeg = 6)).trans e6) ?_
  have o6128 := (f6116 277 _ (by decide) o6127)
  refine y_callVR (M := (M_law nm)) (M' := M_X12_find) rfl rfl dL_law_1765 m_X12_find t_3129 t_3130 t_3131 (q6126 hl c0 c1 c2 c3 c4 c5 c6 c7 o6128) rfl rfl o6128 rfl (Nat.le_of_ble_eq_true rfl) (Nat.le_of_ble_eq_true rfl) (Nat.le_of_ble_eq_true rfl) (Nat.le_of_ble_eq_true rfl) (fun h6129 f6130 w6131 => ?_)
  obtain ⟨o6132, -⟩ := w6131
  refine x_istore (M := (M_law nm)) dL_law_1768 (Nat.le_of_ble_eq_true rfl) rfl ?_
  refine x_aload_n (M := (M_law nm)) dL_law_1770 rfl ?_
  refine x_callVR (M := (M_law nm)) (M' := M_X12_thrown) rfl rfl dL_law_1771 m_X12_thrown t_2797 t_2798 t_2799 (q35 hl o6132) rfl rfl o6132 rfl (Nat.le_of_ble_eq_true rfl) (Nat.le_of_ble_eq_true rfl) (Nat.le_of_ble_eq_true rfl) (Nat.le_of_ble_eq_true rfl) ?_
  refine x_iload (M := (M_law nm)) dL_law_1774 rfl ?_
  refine x_icmp_eq (M := (M_law nm)) (tgt := 1781) dL_law_1776 (by decide) (fun _ => ?_) (fun q => absurd q (by decide +kernel))
  refine x_iload (M := (M_law nm)) dL_law_1781 rfl ?_
  refine x_if_ne (M := (M_law nm)) (tgt := 1798) dL_law_1783 (by decide) (fun _ => ?_) (fun q => absurd q (by decide +kernel))
  refine x_goto (M := (M_law nm)) (tgt := 2449) dL_law_1798 (by decide) ?_
  refine x_iinc (M := (M_law nm)) dL_law_2449 rfl (Nat.le_of_ble_eq_true rfl) rfl ?_
  refine x_lvs (M := (M_law nm)) (lv' := [some (.ref 0), some (.ref 32), some (.ref 277), some (.ref 359), some (.int (Int32.ofInt 7)), some (.int (Int32.ofInt 1)), some (.int (Int32.ofInt 0)), none]) (by rw [(by decide +kernel : (Int32.ofInt 1) + Int32.ofInt 6 = (Int32.ofInt 7))] <;> rfl) ?_
  refine x_goto (M := (M_law nm)) (tgt := 33) dL_law_2452 (by decide) ?_
  refine x_iload (M := (M_law nm)) dL_law_33 rfl ?_
  refine x_aload_n (M := (M_law nm)) dL_law_35 rfl ?_
  refine x_slen (M := (M_law nm)) dL_law_36 (by decide) hx ?_
  refine x_bipush (M := (M_law nm)) dL_law_37 ?_
  refine x_isub (M := (M_law nm)) dL_law_39 ?_
  refine x_icmp_gt (M := (M_law nm)) (tgt := 2455) dL_law_40 (by decide) (fun _ => ?_) (fun q => absurd q (by decide +kernel))
  refine x_iconst (M := (M_law nm)) dL_law_2455 ?_
  exact x_zret (M := (M_law nm)) dL_law_2456 rfl (by decide) rfl (Nat.le_of_ble_eq_true rfl) (Nat.le_of_ble_eq_true rfl)
set_option maxRecDepth 10000 in
theorem q6153 {l : Launch} {E : EE} (hl : l.stackTraces = false) {h : HP} {a0 : Int32} {a1 : Int32} {a2 : Int32} {a3 : Int32} {a4 : Int32} {dg : Int32} (c0 : ¬ (a0.toInt < 0)) (c1 : ¬ (2 < a0.toInt)) (c2 : ¬ (a1.toInt < (-1000000000))) (c3 : ¬ (a2.toInt < (-1000000000))) (c4 : ¬ (1000000000 < a3.toInt)) (c5 : ¬ (1000000000 < a4.toInt)) (c6 : a3.toInt < a1.toInt) (c7 : ¬ (1000000000 < a1.toInt)) (c8 : 1000000000 < a2.toInt) (o6145 : ob h 277 = some (.inr (15, (RB dg)))) : en_C l E M_X12_find 2 0 0 [.ref 277, .int a0, .int a1, .int a2, .int a3, .int a4] h (pF (some (.int (Int32.ofInt 0))) [277] h (fun h' => ob h' 277 = some (.inr (15, ((RB dg).set 0 (.int (Int32.ofInt 1))))) ∧ True)) := by
  refine en_mk m_X12_find rfl hl (Nat.le_of_ble_eq_true rfl) ?_
  refine x_aload_n (M := M_X12_find) dX12_find_0 rfl ?_
  refine x_iconst (M := M_X12_find) dX12_find_1 ?_
  refine y_put (M := M_X12_find) (ci := 15) (C := RX12) (T := TX12) (N := 135) (ty := tyX12) cl15 dX12_find_2 o6145 0 (by decide) t_2391 (Or.inl rfl) (Nat.le_of_ble_eq_true rfl) rfl (fun h6146 w6147 f6148 => ?_)
  refine x_iload_n (M := M_X12_find) dX12_find_5 rfl ?_
  refine x_i2l (M := M_X12_find) dX12_find_6 ?_
  refine x_lconst (M := M_X12_find) dX12_find_7 ?_
  refine x_ldc2 (M := M_X12_find) dX12_find_8 t_3091 ?_
  refine x_norm (M := M_X12_find) (st' := [.long (Int64.ofInt 2), .long (Int64.ofInt 0), .long (a0.toInt64)]) rfl (vj_cons (by decide +kernel : (2 : Int64) = (Int64.ofInt 2)) (vj_cons (by decide +kernel : (Int64.ofNat ((0 : Fin 2) : Nat)) = (Int64.ofInt 0)) rfl)) rfl rfl rfl ?_
  refine x_callSR (M := M_X12_find) (M' := M_X12_in) rfl rfl dX12_find_11 m_X12_in t_2818 t_2819 (q5833 hl c0 c1) rfl rfl (Nat.le_of_ble_eq_true rfl) (Nat.le_of_ble_eq_true rfl) (Nat.le_of_ble_eq_true rfl) (Nat.le_of_ble_eq_true rfl) ?_
  refine x_if_eq (M := M_X12_find) (tgt := 67) dX12_find_14 (by decide) (fun q => absurd q (by decide +kernel)) (fun _ => ?_)
  refine x_iload_n (M := M_X12_find) dX12_find_17 rfl ?_
  refine x_i2l (M := M_X12_find) dX12_find_18 ?_
  refine x_callSR (M := M_X12_find) (M' := M_X12_isFar) rfl rfl dX12_find_19 m_X12_isFar t_3133 t_3134 (q5646 hl c2 c7) rfl rfl (Nat.le_of_ble_eq_true rfl) (Nat.le_of_ble_eq_true rfl) (Nat.le_of_ble_eq_true rfl) (Nat.le_of_ble_eq_true rfl) ?_
  refine x_if_eq (M := M_X12_find) (tgt := 67) dX12_find_22 (by decide) (fun q => absurd q (by decide +kernel)) (fun _ => ?_)
  refine x_iload_n (M := M_X12_find) dX12_find_25 rfl ?_
  refine x_i2l (M := M_X12_find) dX12_find_26 ?_
  refine x_callSR (M := M_X12_find) (M' := M_X12_isFar) rfl rfl dX12_find_27 m_X12_isFar t_3133 t_3134 (q5951 hl c3 c8) rfl rfl (Nat.le_of_ble_eq_true rfl) (Nat.le_of_ble_eq_true rfl) (Nat.le_of_ble_eq_true rfl) (Nat.le_of_ble_eq_true rfl) ?_
  refine x_if_eq (M := M_X12_find) (tgt := 67) dX12_find_30 (by decide) (fun _ => ?_) (fun q => absurd q (by decide +kernel))
  refine x_iconst (M := M_X12_find) dX12_find_67 ?_
  refine x_istore (M := M_X12_find) dX12_find_68 (Nat.le_of_ble_eq_true rfl) rfl ?_
  refine x_aload_n (M := M_X12_find) dX12_find_70 rfl ?_
  refine x_iload (M := M_X12_find) dX12_find_71 rfl ?_
  refine x_if_ne (M := M_X12_find) (tgt := 80) dX12_find_73 (by decide) (fun q => absurd q (by decide +kernel)) (fun _ => ?_)
  refine x_iconst (M := M_X12_find) dX12_find_76 ?_
  refine x_goto (M := M_X12_find) (tgt := 81) dX12_find_77 (by decide) ?_
  refine x_iconst (M := M_X12_find) dX12_find_81 ?_
  refine y_callVR (M := M_X12_find) (M' := M_X12_fails) rfl rfl dX12_find_82 m_X12_fails t_2805 t_2807 s_157 (q22 hl w6147) rfl rfl w6147 rfl (Nat.le_of_ble_eq_true rfl) (Nat.le_of_ble_eq_true rfl) (Nat.le_of_ble_eq_true rfl) (Nat.le_of_ble_eq_true rfl) (fun h6149 f6150 w6151 => ?_)
  obtain ⟨o6152, -⟩ := w6151
  refine x_if_eq (M := M_X12_find) (tgt := 90) dX12_find_85 (by decide) (fun q => absurd q (by decide +kernel)) (fun _ => ?_)
  refine x_iconst (M := M_X12_find) dX12_find_88 ?_
  exact x_iret (M := M_X12_find) dX12_find_89 rfl ⟨rfl, (fr_tr f6150 (by decide) (fr_tr f6148 (by decide) fr_rf)), ⟨o6152, trivial⟩⟩ (Nat.le_of_ble_eq_true rfl) (Nat.le_of_ble_eq_true rfl)
set_option maxRecDepth 10000 in
theorem lc23_13 {l : Launch} {E : EE} (hl : l.stackTraces = false) (nm : String) {xs : Nat → Int32} (hx : E.2.2.2.2 0 = some (7, xs)) {h : HP} {a0 : Int32} {a1 : Int32} {a2 : Int32} {a3 : Int32} {a4 : Int32} {dg : Int32} (e2 : xs 2 = a0) (e3 : xs 3 = a1) (e4 : xs 4 = a2) (e5 : xs 5 = a3) (e6 : xs 6 = a4) (c0 : ¬ (a0.toInt < 0)) (c1 : ¬ (2 < a0.toInt)) (c2 : ¬ (a1.toInt < (-1000000000))) (c3 : ¬ (a2.toInt < (-1000000000))) (c4 : ¬ (1000000000 < a3.toInt)) (c5 : ¬ (1000000000 < a4.toInt)) (c6 : a3.toInt < a1.toInt) (c7 : ¬ (1000000000 < a1.toInt)) (c8 : 1000000000 < a2.toInt) (o6141 : ob h 32 = some (.inr (14, [.ref 33, .ref 162, .ref 166, .int (0 : Int32), .int (0 : Int32), .int (0 : Int32), .ref 167, .ref 170, .ref 173, .ref 177, .ref 193, .ref 208, .ref 222, .ref 238, .ref 252, .ref 274, .ref 275, .ref 276, .int (0 : Int32)]))) (o6154 : ob h 277 = some (.inr (15, (RB dg)))) : XX l E (M_law nm) 1312 342628 8074320 (fun o _ => o = .inl (some (.int 1))) 1697 [some (.ref 0), some (.ref 32), some (.ref 277), some (.ref 359), some (.int (Int32.ofInt 1)), none, none, none] [] h 328 2463747 := by
  refine x_aload_n (M := (M_law nm)) dL_law_1697 rfl ?_
  refine x_aload_n (M := (M_law nm)) dL_law_1698 rfl ?_
  refine x_iload (M := (M_law nm)) dL_law_1699 rfl ?_
  refine x_iconst (M := (M_law nm)) dL_law_1701 ?_
  refine x_iadd (M := (M_law nm)) dL_law_1702 ?_
  refine x_sald (M := (M_law nm)) dL_law_1703 (by decide) hx (vp_inD (by decide +kernel)) ?_
  refine x_top (M := (M_law nm)) (y := a0) ((congrArg xs (by decide +kernel : ((Int32.ofInt 1) + (Int32.ofInt 1)).toNatClampNeg = 2)).trans e2) ?_
  refine x_aload_n (M := (M_law nm)) dL_law_1704 rfl ?_
  refine x_iload (M := (M_law nm)) dL_law_1705 rfl ?_
  refine x_iconst (M := (M_law nm)) dL_law_1707 ?_
  refine x_iadd (M := (M_law nm)) dL_law_1708 ?_
  refine x_sald (M := (M_law nm)) dL_law_1709 (by decide) hx (vp_inD (by decide +kernel)) ?_
  refine x_top (M := (M_law nm)) (y := a1) ((congrArg xs (by decide +kernel : ((Int32.ofInt 1) + (Int32.ofInt 2)).toNatClampNeg = 3)).trans e3) ?_
  refine x_aload_n (M := (M_law nm)) dL_law_1710 rfl ?_
  refine x_iload (M := (M_law nm)) dL_law_1711 rfl ?_
  refine x_iconst (M := (M_law nm)) dL_law_1713 ?_
  refine x_iadd (M := (M_law nm)) dL_law_1714 ?_
  refine x_sald (M := (M_law nm)) dL_law_1715 (by decide) hx (vp_inD (by decide +kernel)) ?_
  refine x_top (M := (M_law nm)) (y := a2) ((congrArg xs (by decide +kernel : ((Int32.ofInt 1) + (Int32.ofInt 3)).toNatClampNeg = 4)).trans e4) ?_
  refine x_aload_n (M := (M_law nm)) dL_law_1716 rfl ?_
  refine x_iload (M := (M_law nm)) dL_law_1717 rfl ?_
  refine x_iconst (M := (M_law nm)) dL_law_1719 ?_
  refine x_iadd (M := (M_law nm)) dL_law_1720 ?_
  refine x_sald (M := (M_law nm)) dL_law_1721 (by decide) hx (vp_inD (by decide +kernel)) ?_
  refine x_top (M := (M_law nm)) (y := a3) ((congrArg xs (by decide +kernel : ((Int32.ofInt 1) + (Int32.ofInt 4)).toNatClampNeg = 5)).trans e5) ?_
  refine x_aload_n (M := (M_law nm)) dL_law_1722 rfl ?_
  refine x_iload (M := (M_law nm)) dL_law_1723 rfl ?_
  refine x_iconst (M := (M_law nm)) dL_law_1725 ?_
  refine x_iadd (M := (M_law nm)) dL_law_1726 ?_
  refine x_sald (M := (M_law nm)) dL_law_1727 (by decide) hx (vp_inD (by decide +kernel)) ?_
  refine x_top (M := (M_law nm)) (y := a4) ((congrArg xs (by decide +kernel : ((Int32.ofInt 1) + (Int32.ofInt 5)).toNatClampNeg = 6)).trans e6) ?_
  refine x_aload_n (M := (M_law nm)) dL_law_1728 rfl ?_
  refine y_callSW (M := (M_law nm)) (M' := M_L_find) rfl rfl dL_law_1729 m_L_find t_2242 t_2243 (q6105 hl c0 c1 c2 c3 c4 c5 c6 o6141) rfl rfl (Nat.le_of_ble_eq_true rfl) (Nat.le_of_ble_eq_true rfl) (Nat.le_of_ble_eq_true rfl) (Nat.le_of_ble_eq_true rfl) (fun h6142 f6143 w6144 => ?_)
  refine x_istore (M := (M_law nm)) dL_law_1732 (Nat.le_of_ble_eq_true rfl) rfl ?_
  refine x_aload_n (M := (M_law nm)) dL_law_1734 rfl ?_
  refine x_aload_n (M := (M_law nm)) dL_law_1735 rfl ?_
  refine x_iload (M := (M_law nm)) dL_law_1736 rfl ?_
  refine x_iconst (M := (M_law nm)) dL_law_1738 ?_
  refine x_iadd (M := (M_law nm)) dL_law_1739 ?_
  refine x_sald (M := (M_law nm)) dL_law_1740 (by decide) hx (vp_inD (by decide +kernel)) ?_
  refine x_top (M := (M_law nm)) (y := a0) ((congrArg xs (by decide +kernel : ((Int32.ofInt 1) + (Int32.ofInt 1)).toNatClampNeg = 2)).trans e2) ?_
  refine x_aload_n (M := (M_law nm)) dL_law_1741 rfl ?_
  refine x_iload (M := (M_law nm)) dL_law_1742 rfl ?_
  refine x_iconst (M := (M_law nm)) dL_law_1744 ?_
  refine x_iadd (M := (M_law nm)) dL_law_1745 ?_
  refine x_sald (M := (M_law nm)) dL_law_1746 (by decide) hx (vp_inD (by decide +kernel)) ?_
  refine x_top (M := (M_law nm)) (y := a1) ((congrArg xs (by decide +kernel : ((Int32.ofInt 1) + (Int32.ofInt 2)).toNatClampNeg = 3)).trans e3) ?_
  refine x_aload_n (M := (M_law nm)) dL_law_1747 rfl ?_
  refine x_iload (M := (M_law nm)) dL_law_1748 rfl ?_
  refine x_iconst (M := (M_law nm)) dL_law_1750 ?_
  refine x_iadd (M := (M_law nm)) dL_law_1751 ?_
  refine x_sald (M := (M_law nm)) dL_law_1752 (by decide) hx (vp_inD (by decide +kernel)) ?_
  refine x_top (M := (M_law nm)) (y := a2) ((congrArg xs (by decide +kernel : ((Int32.ofInt 1) + (Int32.ofInt 3)).toNatClampNeg = 4)).trans e4) ?_
  refine x_aload_n (M := (M_law nm)) dL_law_1753 rfl ?_
  refine x_iload (M := (M_law nm)) dL_law_1754 rfl ?_
  refine x_iconst (M := (M_law nm)) dL_law_1756 ?_
  refine x_iadd (M := (M_law nm)) dL_law_1757 ?_
  refine x_sald (M := (M_law nm)) dL_law_1758 (by decide) hx (vp_inD (by decide +kernel)) ?_
  refine x_top (M := (M_law nm)) (y := a3) ((congrArg xs (by decide +kernel : ((Int32.ofInt 1) + (Int32.ofInt 4)).toNatClampNeg = 5)).trans e5) ?_
  refine x_aload_n (M := (M_law nm)) dL_law_1759 rfl ?_
  refine x_iload (M := (M_law nm)) dL_law_1760 rfl ?_
  refine x_iconst (M := (M_law nm)) dL_law_1762 ?_
  refine x_iadd (M := (M_law nm)) dL_law_1763 ?_
  refine x_sald (M := (M_law nm)) dL_law_1764 (by decide) hx (vp_inD (by decide +kernel)) ?_
  refine x_top (M := (M_law nm)) (y := a4) ((congrArg xs (by decide +kernel : ((Int32.ofInt 1) + (Int32.ofInt 5)).toNatClampNeg = 6)).trans e6) ?_
  have o6155 := (f6143 277 _ (by decide) o6154)
  refine y_callVR (M := (M_law nm)) (M' := M_X12_find) rfl rfl dL_law_1765 m_X12_find t_3129 t_3130 t_3131 (q6153 hl c0 c1 c2 c3 c4 c5 c6 c7 c8 o6155) rfl rfl o6155 rfl (Nat.le_of_ble_eq_true rfl) (Nat.le_of_ble_eq_true rfl) (Nat.le_of_ble_eq_true rfl) (Nat.le_of_ble_eq_true rfl) (fun h6156 f6157 w6158 => ?_)
  obtain ⟨o6159, -⟩ := w6158
  refine x_istore (M := (M_law nm)) dL_law_1768 (Nat.le_of_ble_eq_true rfl) rfl ?_
  refine x_aload_n (M := (M_law nm)) dL_law_1770 rfl ?_
  refine x_callVR (M := (M_law nm)) (M' := M_X12_thrown) rfl rfl dL_law_1771 m_X12_thrown t_2797 t_2798 t_2799 (q35 hl o6159) rfl rfl o6159 rfl (Nat.le_of_ble_eq_true rfl) (Nat.le_of_ble_eq_true rfl) (Nat.le_of_ble_eq_true rfl) (Nat.le_of_ble_eq_true rfl) ?_
  refine x_iload (M := (M_law nm)) dL_law_1774 rfl ?_
  refine x_icmp_eq (M := (M_law nm)) (tgt := 1781) dL_law_1776 (by decide) (fun _ => ?_) (fun q => absurd q (by decide +kernel))
  refine x_iload (M := (M_law nm)) dL_law_1781 rfl ?_
  refine x_if_ne (M := (M_law nm)) (tgt := 1798) dL_law_1783 (by decide) (fun _ => ?_) (fun q => absurd q (by decide +kernel))
  refine x_goto (M := (M_law nm)) (tgt := 2449) dL_law_1798 (by decide) ?_
  refine x_iinc (M := (M_law nm)) dL_law_2449 rfl (Nat.le_of_ble_eq_true rfl) rfl ?_
  refine x_lvs (M := (M_law nm)) (lv' := [some (.ref 0), some (.ref 32), some (.ref 277), some (.ref 359), some (.int (Int32.ofInt 7)), some (.int (Int32.ofInt 1)), some (.int (Int32.ofInt 0)), none]) (by rw [(by decide +kernel : (Int32.ofInt 1) + Int32.ofInt 6 = (Int32.ofInt 7))] <;> rfl) ?_
  refine x_goto (M := (M_law nm)) (tgt := 33) dL_law_2452 (by decide) ?_
  refine x_iload (M := (M_law nm)) dL_law_33 rfl ?_
  refine x_aload_n (M := (M_law nm)) dL_law_35 rfl ?_
  refine x_slen (M := (M_law nm)) dL_law_36 (by decide) hx ?_
  refine x_bipush (M := (M_law nm)) dL_law_37 ?_
  refine x_isub (M := (M_law nm)) dL_law_39 ?_
  refine x_icmp_gt (M := (M_law nm)) (tgt := 2455) dL_law_40 (by decide) (fun _ => ?_) (fun q => absurd q (by decide +kernel))
  refine x_iconst (M := (M_law nm)) dL_law_2455 ?_
  exact x_zret (M := (M_law nm)) dL_law_2456 rfl (by decide) rfl (Nat.le_of_ble_eq_true rfl) (Nat.le_of_ble_eq_true rfl)
set_option maxRecDepth 10000 in
theorem q6180 {l : Launch} {E : EE} (hl : l.stackTraces = false) {h : HP} {a0 : Int32} {a1 : Int32} {a2 : Int32} {a3 : Int32} {a4 : Int32} {dg : Int32} (c0 : ¬ (a0.toInt < 0)) (c1 : ¬ (2 < a0.toInt)) (c2 : ¬ (a1.toInt < (-1000000000))) (c3 : ¬ (a2.toInt < (-1000000000))) (c4 : ¬ (1000000000 < a3.toInt)) (c5 : ¬ (1000000000 < a4.toInt)) (c6 : a3.toInt < a1.toInt) (c7 : ¬ (1000000000 < a1.toInt)) (c8 : ¬ (1000000000 < a2.toInt)) (c9 : a3.toInt < (-1000000000)) (o6172 : ob h 277 = some (.inr (15, (RB dg)))) : en_C l E M_X12_find 2 0 0 [.ref 277, .int a0, .int a1, .int a2, .int a3, .int a4] h (pF (some (.int (Int32.ofInt 0))) [277] h (fun h' => ob h' 277 = some (.inr (15, ((RB dg).set 0 (.int (Int32.ofInt 1))))) ∧ True)) := by
  refine en_mk m_X12_find rfl hl (Nat.le_of_ble_eq_true rfl) ?_
  refine x_aload_n (M := M_X12_find) dX12_find_0 rfl ?_
  refine x_iconst (M := M_X12_find) dX12_find_1 ?_
  refine y_put (M := M_X12_find) (ci := 15) (C := RX12) (T := TX12) (N := 135) (ty := tyX12) cl15 dX12_find_2 o6172 0 (by decide) t_2391 (Or.inl rfl) (Nat.le_of_ble_eq_true rfl) rfl (fun h6173 w6174 f6175 => ?_)
  refine x_iload_n (M := M_X12_find) dX12_find_5 rfl ?_
  refine x_i2l (M := M_X12_find) dX12_find_6 ?_
  refine x_lconst (M := M_X12_find) dX12_find_7 ?_
  refine x_ldc2 (M := M_X12_find) dX12_find_8 t_3091 ?_
  refine x_norm (M := M_X12_find) (st' := [.long (Int64.ofInt 2), .long (Int64.ofInt 0), .long (a0.toInt64)]) rfl (vj_cons (by decide +kernel : (2 : Int64) = (Int64.ofInt 2)) (vj_cons (by decide +kernel : (Int64.ofNat ((0 : Fin 2) : Nat)) = (Int64.ofInt 0)) rfl)) rfl rfl rfl ?_
  refine x_callSR (M := M_X12_find) (M' := M_X12_in) rfl rfl dX12_find_11 m_X12_in t_2818 t_2819 (q5833 hl c0 c1) rfl rfl (Nat.le_of_ble_eq_true rfl) (Nat.le_of_ble_eq_true rfl) (Nat.le_of_ble_eq_true rfl) (Nat.le_of_ble_eq_true rfl) ?_
  refine x_if_eq (M := M_X12_find) (tgt := 67) dX12_find_14 (by decide) (fun q => absurd q (by decide +kernel)) (fun _ => ?_)
  refine x_iload_n (M := M_X12_find) dX12_find_17 rfl ?_
  refine x_i2l (M := M_X12_find) dX12_find_18 ?_
  refine x_callSR (M := M_X12_find) (M' := M_X12_isFar) rfl rfl dX12_find_19 m_X12_isFar t_3133 t_3134 (q5646 hl c2 c7) rfl rfl (Nat.le_of_ble_eq_true rfl) (Nat.le_of_ble_eq_true rfl) (Nat.le_of_ble_eq_true rfl) (Nat.le_of_ble_eq_true rfl) ?_
  refine x_if_eq (M := M_X12_find) (tgt := 67) dX12_find_22 (by decide) (fun q => absurd q (by decide +kernel)) (fun _ => ?_)
  refine x_iload_n (M := M_X12_find) dX12_find_25 rfl ?_
  refine x_i2l (M := M_X12_find) dX12_find_26 ?_
  refine x_callSR (M := M_X12_find) (M' := M_X12_isFar) rfl rfl dX12_find_27 m_X12_isFar t_3133 t_3134 (q5972 hl c3 c8) rfl rfl (Nat.le_of_ble_eq_true rfl) (Nat.le_of_ble_eq_true rfl) (Nat.le_of_ble_eq_true rfl) (Nat.le_of_ble_eq_true rfl) ?_
  refine x_if_eq (M := M_X12_find) (tgt := 67) dX12_find_30 (by decide) (fun q => absurd q (by decide +kernel)) (fun _ => ?_)
  refine x_iload (M := M_X12_find) dX12_find_33 rfl ?_
  refine x_i2l (M := M_X12_find) dX12_find_35 ?_
  refine x_callSR (M := M_X12_find) (M' := M_X12_isFar) rfl rfl dX12_find_36 m_X12_isFar t_3133 t_3134 (q6064 hl c4 c9) rfl rfl (Nat.le_of_ble_eq_true rfl) (Nat.le_of_ble_eq_true rfl) (Nat.le_of_ble_eq_true rfl) (Nat.le_of_ble_eq_true rfl) ?_
  refine x_if_eq (M := M_X12_find) (tgt := 67) dX12_find_39 (by decide) (fun _ => ?_) (fun q => absurd q (by decide +kernel))
  refine x_iconst (M := M_X12_find) dX12_find_67 ?_
  refine x_istore (M := M_X12_find) dX12_find_68 (Nat.le_of_ble_eq_true rfl) rfl ?_
  refine x_aload_n (M := M_X12_find) dX12_find_70 rfl ?_
  refine x_iload (M := M_X12_find) dX12_find_71 rfl ?_
  refine x_if_ne (M := M_X12_find) (tgt := 80) dX12_find_73 (by decide) (fun q => absurd q (by decide +kernel)) (fun _ => ?_)
  refine x_iconst (M := M_X12_find) dX12_find_76 ?_
  refine x_goto (M := M_X12_find) (tgt := 81) dX12_find_77 (by decide) ?_
  refine x_iconst (M := M_X12_find) dX12_find_81 ?_
  refine y_callVR (M := M_X12_find) (M' := M_X12_fails) rfl rfl dX12_find_82 m_X12_fails t_2805 t_2807 s_157 (q22 hl w6174) rfl rfl w6174 rfl (Nat.le_of_ble_eq_true rfl) (Nat.le_of_ble_eq_true rfl) (Nat.le_of_ble_eq_true rfl) (Nat.le_of_ble_eq_true rfl) (fun h6176 f6177 w6178 => ?_)
  obtain ⟨o6179, -⟩ := w6178
  refine x_if_eq (M := M_X12_find) (tgt := 90) dX12_find_85 (by decide) (fun q => absurd q (by decide +kernel)) (fun _ => ?_)
  refine x_iconst (M := M_X12_find) dX12_find_88 ?_
  exact x_iret (M := M_X12_find) dX12_find_89 rfl ⟨rfl, (fr_tr f6177 (by decide) (fr_tr f6175 (by decide) fr_rf)), ⟨o6179, trivial⟩⟩ (Nat.le_of_ble_eq_true rfl) (Nat.le_of_ble_eq_true rfl)
set_option maxRecDepth 10000 in
theorem lc23_14 {l : Launch} {E : EE} (hl : l.stackTraces = false) (nm : String) {xs : Nat → Int32} (hx : E.2.2.2.2 0 = some (7, xs)) {h : HP} {a0 : Int32} {a1 : Int32} {a2 : Int32} {a3 : Int32} {a4 : Int32} {dg : Int32} (e2 : xs 2 = a0) (e3 : xs 3 = a1) (e4 : xs 4 = a2) (e5 : xs 5 = a3) (e6 : xs 6 = a4) (c0 : ¬ (a0.toInt < 0)) (c1 : ¬ (2 < a0.toInt)) (c2 : ¬ (a1.toInt < (-1000000000))) (c3 : ¬ (a2.toInt < (-1000000000))) (c4 : ¬ (1000000000 < a3.toInt)) (c5 : ¬ (1000000000 < a4.toInt)) (c6 : a3.toInt < a1.toInt) (c7 : ¬ (1000000000 < a1.toInt)) (c8 : ¬ (1000000000 < a2.toInt)) (c9 : a3.toInt < (-1000000000)) (o6168 : ob h 32 = some (.inr (14, [.ref 33, .ref 162, .ref 166, .int (0 : Int32), .int (0 : Int32), .int (0 : Int32), .ref 167, .ref 170, .ref 173, .ref 177, .ref 193, .ref 208, .ref 222, .ref 238, .ref 252, .ref 274, .ref 275, .ref 276, .int (0 : Int32)]))) (o6181 : ob h 277 = some (.inr (15, (RB dg)))) : XX l E (M_law nm) 1312 342628 8074320 (fun o _ => o = .inl (some (.int 1))) 1697 [some (.ref 0), some (.ref 32), some (.ref 277), some (.ref 359), some (.int (Int32.ofInt 1)), none, none, none] [] h 328 2463747 := by
  refine x_aload_n (M := (M_law nm)) dL_law_1697 rfl ?_
  refine x_aload_n (M := (M_law nm)) dL_law_1698 rfl ?_
  refine x_iload (M := (M_law nm)) dL_law_1699 rfl ?_
  refine x_iconst (M := (M_law nm)) dL_law_1701 ?_
  refine x_iadd (M := (M_law nm)) dL_law_1702 ?_
  refine x_sald (M := (M_law nm)) dL_law_1703 (by decide) hx (vp_inD (by decide +kernel)) ?_
  refine x_top (M := (M_law nm)) (y := a0) ((congrArg xs (by decide +kernel : ((Int32.ofInt 1) + (Int32.ofInt 1)).toNatClampNeg = 2)).trans e2) ?_
  refine x_aload_n (M := (M_law nm)) dL_law_1704 rfl ?_
  refine x_iload (M := (M_law nm)) dL_law_1705 rfl ?_
  refine x_iconst (M := (M_law nm)) dL_law_1707 ?_
  refine x_iadd (M := (M_law nm)) dL_law_1708 ?_
  refine x_sald (M := (M_law nm)) dL_law_1709 (by decide) hx (vp_inD (by decide +kernel)) ?_
  refine x_top (M := (M_law nm)) (y := a1) ((congrArg xs (by decide +kernel : ((Int32.ofInt 1) + (Int32.ofInt 2)).toNatClampNeg = 3)).trans e3) ?_
  refine x_aload_n (M := (M_law nm)) dL_law_1710 rfl ?_
  refine x_iload (M := (M_law nm)) dL_law_1711 rfl ?_
  refine x_iconst (M := (M_law nm)) dL_law_1713 ?_
  refine x_iadd (M := (M_law nm)) dL_law_1714 ?_
  refine x_sald (M := (M_law nm)) dL_law_1715 (by decide) hx (vp_inD (by decide +kernel)) ?_
  refine x_top (M := (M_law nm)) (y := a2) ((congrArg xs (by decide +kernel : ((Int32.ofInt 1) + (Int32.ofInt 3)).toNatClampNeg = 4)).trans e4) ?_
  refine x_aload_n (M := (M_law nm)) dL_law_1716 rfl ?_
  refine x_iload (M := (M_law nm)) dL_law_1717 rfl ?_
  refine x_iconst (M := (M_law nm)) dL_law_1719 ?_
  refine x_iadd (M := (M_law nm)) dL_law_1720 ?_
  refine x_sald (M := (M_law nm)) dL_law_1721 (by decide) hx (vp_inD (by decide +kernel)) ?_
  refine x_top (M := (M_law nm)) (y := a3) ((congrArg xs (by decide +kernel : ((Int32.ofInt 1) + (Int32.ofInt 4)).toNatClampNeg = 5)).trans e5) ?_
  refine x_aload_n (M := (M_law nm)) dL_law_1722 rfl ?_
  refine x_iload (M := (M_law nm)) dL_law_1723 rfl ?_
  refine x_iconst (M := (M_law nm)) dL_law_1725 ?_
  refine x_iadd (M := (M_law nm)) dL_law_1726 ?_
  refine x_sald (M := (M_law nm)) dL_law_1727 (by decide) hx (vp_inD (by decide +kernel)) ?_
  refine x_top (M := (M_law nm)) (y := a4) ((congrArg xs (by decide +kernel : ((Int32.ofInt 1) + (Int32.ofInt 5)).toNatClampNeg = 6)).trans e6) ?_
  refine x_aload_n (M := (M_law nm)) dL_law_1728 rfl ?_
  refine y_callSW (M := (M_law nm)) (M' := M_L_find) rfl rfl dL_law_1729 m_L_find t_2242 t_2243 (q6105 hl c0 c1 c2 c3 c4 c5 c6 o6168) rfl rfl (Nat.le_of_ble_eq_true rfl) (Nat.le_of_ble_eq_true rfl) (Nat.le_of_ble_eq_true rfl) (Nat.le_of_ble_eq_true rfl) (fun h6169 f6170 w6171 => ?_)
  refine x_istore (M := (M_law nm)) dL_law_1732 (Nat.le_of_ble_eq_true rfl) rfl ?_
  refine x_aload_n (M := (M_law nm)) dL_law_1734 rfl ?_
  refine x_aload_n (M := (M_law nm)) dL_law_1735 rfl ?_
  refine x_iload (M := (M_law nm)) dL_law_1736 rfl ?_
  refine x_iconst (M := (M_law nm)) dL_law_1738 ?_
  refine x_iadd (M := (M_law nm)) dL_law_1739 ?_
  refine x_sald (M := (M_law nm)) dL_law_1740 (by decide) hx (vp_inD (by decide +kernel)) ?_
  refine x_top (M := (M_law nm)) (y := a0) ((congrArg xs (by decide +kernel : ((Int32.ofInt 1) + (Int32.ofInt 1)).toNatClampNeg = 2)).trans e2) ?_
  refine x_aload_n (M := (M_law nm)) dL_law_1741 rfl ?_
  refine x_iload (M := (M_law nm)) dL_law_1742 rfl ?_
  refine x_iconst (M := (M_law nm)) dL_law_1744 ?_
  refine x_iadd (M := (M_law nm)) dL_law_1745 ?_
  refine x_sald (M := (M_law nm)) dL_law_1746 (by decide) hx (vp_inD (by decide +kernel)) ?_
  refine x_top (M := (M_law nm)) (y := a1) ((congrArg xs (by decide +kernel : ((Int32.ofInt 1) + (Int32.ofInt 2)).toNatClampNeg = 3)).trans e3) ?_
  refine x_aload_n (M := (M_law nm)) dL_law_1747 rfl ?_
  refine x_iload (M := (M_law nm)) dL_law_1748 rfl ?_
  refine x_iconst (M := (M_law nm)) dL_law_1750 ?_
  refine x_iadd (M := (M_law nm)) dL_law_1751 ?_
  refine x_sald (M := (M_law nm)) dL_law_1752 (by decide) hx (vp_inD (by decide +kernel)) ?_
  refine x_top (M := (M_law nm)) (y := a2) ((congrArg xs (by decide +kernel : ((Int32.ofInt 1) + (Int32.ofInt 3)).toNatClampNeg = 4)).trans e4) ?_
  refine x_aload_n (M := (M_law nm)) dL_law_1753 rfl ?_
  refine x_iload (M := (M_law nm)) dL_law_1754 rfl ?_
  refine x_iconst (M := (M_law nm)) dL_law_1756 ?_
  refine x_iadd (M := (M_law nm)) dL_law_1757 ?_
  refine x_sald (M := (M_law nm)) dL_law_1758 (by decide) hx (vp_inD (by decide +kernel)) ?_
  refine x_top (M := (M_law nm)) (y := a3) ((congrArg xs (by decide +kernel : ((Int32.ofInt 1) + (Int32.ofInt 4)).toNatClampNeg = 5)).trans e5) ?_
  refine x_aload_n (M := (M_law nm)) dL_law_1759 rfl ?_
  refine x_iload (M := (M_law nm)) dL_law_1760 rfl ?_
  refine x_iconst (M := (M_law nm)) dL_law_1762 ?_
  refine x_iadd (M := (M_law nm)) dL_law_1763 ?_
  refine x_sald (M := (M_law nm)) dL_law_1764 (by decide) hx (vp_inD (by decide +kernel)) ?_
  refine x_top (M := (M_law nm)) (y := a4) ((congrArg xs (by decide +kernel : ((Int32.ofInt 1) + (Int32.ofInt 5)).toNatClampNeg = 6)).trans e6) ?_
  have o6182 := (f6170 277 _ (by decide) o6181)
  refine y_callVR (M := (M_law nm)) (M' := M_X12_find) rfl rfl dL_law_1765 m_X12_find t_3129 t_3130 t_3131 (q6180 hl c0 c1 c2 c3 c4 c5 c6 c7 c8 c9 o6182) rfl rfl o6182 rfl (Nat.le_of_ble_eq_true rfl) (Nat.le_of_ble_eq_true rfl) (Nat.le_of_ble_eq_true rfl) (Nat.le_of_ble_eq_true rfl) (fun h6183 f6184 w6185 => ?_)
  obtain ⟨o6186, -⟩ := w6185
  refine x_istore (M := (M_law nm)) dL_law_1768 (Nat.le_of_ble_eq_true rfl) rfl ?_
  refine x_aload_n (M := (M_law nm)) dL_law_1770 rfl ?_
  refine x_callVR (M := (M_law nm)) (M' := M_X12_thrown) rfl rfl dL_law_1771 m_X12_thrown t_2797 t_2798 t_2799 (q35 hl o6186) rfl rfl o6186 rfl (Nat.le_of_ble_eq_true rfl) (Nat.le_of_ble_eq_true rfl) (Nat.le_of_ble_eq_true rfl) (Nat.le_of_ble_eq_true rfl) ?_
  refine x_iload (M := (M_law nm)) dL_law_1774 rfl ?_
  refine x_icmp_eq (M := (M_law nm)) (tgt := 1781) dL_law_1776 (by decide) (fun _ => ?_) (fun q => absurd q (by decide +kernel))
  refine x_iload (M := (M_law nm)) dL_law_1781 rfl ?_
  refine x_if_ne (M := (M_law nm)) (tgt := 1798) dL_law_1783 (by decide) (fun _ => ?_) (fun q => absurd q (by decide +kernel))
  refine x_goto (M := (M_law nm)) (tgt := 2449) dL_law_1798 (by decide) ?_
  refine x_iinc (M := (M_law nm)) dL_law_2449 rfl (Nat.le_of_ble_eq_true rfl) rfl ?_
  refine x_lvs (M := (M_law nm)) (lv' := [some (.ref 0), some (.ref 32), some (.ref 277), some (.ref 359), some (.int (Int32.ofInt 7)), some (.int (Int32.ofInt 1)), some (.int (Int32.ofInt 0)), none]) (by rw [(by decide +kernel : (Int32.ofInt 1) + Int32.ofInt 6 = (Int32.ofInt 7))] <;> rfl) ?_
  refine x_goto (M := (M_law nm)) (tgt := 33) dL_law_2452 (by decide) ?_
  refine x_iload (M := (M_law nm)) dL_law_33 rfl ?_
  refine x_aload_n (M := (M_law nm)) dL_law_35 rfl ?_
  refine x_slen (M := (M_law nm)) dL_law_36 (by decide) hx ?_
  refine x_bipush (M := (M_law nm)) dL_law_37 ?_
  refine x_isub (M := (M_law nm)) dL_law_39 ?_
  refine x_icmp_gt (M := (M_law nm)) (tgt := 2455) dL_law_40 (by decide) (fun _ => ?_) (fun q => absurd q (by decide +kernel))
  refine x_iconst (M := (M_law nm)) dL_law_2455 ?_
  exact x_zret (M := (M_law nm)) dL_law_2456 rfl (by decide) rfl (Nat.le_of_ble_eq_true rfl) (Nat.le_of_ble_eq_true rfl)
set_option maxRecDepth 10000 in
theorem q6203 {l : Launch} {E : EE} (hl : l.stackTraces = false) {h : HP} {a4 : Int32} (c0 : ¬ (1000000000 < a4.toInt)) (c1 : a4.toInt < (-1000000000)) : en_C l E M_X12_in 0 0 0 [.long (a4.toInt64), .long (Int64.ofInt (-1000000000)), .long (Int64.ofInt 1000000000)] h (pR (some (.int (Int32.ofInt 0))) h) := by
  refine en_mk m_X12_in rfl hl (Nat.le_of_ble_eq_true rfl) ?_
  refine x_lload_n (M := M_X12_in) dX12_in_0 rfl ?_
  refine x_lload_n (M := M_X12_in) dX12_in_1 rfl ?_
  refine x_lcmp (M := M_X12_in) dX12_in_2 ?_
  refine x_if_lt (M := M_X12_in) (tgt := 17) dX12_in_3 (by decide) (fun _ => ?_) (fun q => absurd ((bc_lt (i_i2l rfl) (by decide +kernel)).mpr (by omega : (a4.toInt < (-1000000000) : Prop))) q)
  refine x_iconst (M := M_X12_in) dX12_in_17 ?_
  exact x_zret (M := M_X12_in) dX12_in_18 rfl (by decide) ⟨rfl, rfl⟩ (Nat.le_of_ble_eq_true rfl) (Nat.le_of_ble_eq_true rfl)
set_option maxRecDepth 10000 in
theorem q6204 {l : Launch} {E : EE} (hl : l.stackTraces = false) {h : HP} {a4 : Int32} (c0 : ¬ (1000000000 < a4.toInt)) (c1 : a4.toInt < (-1000000000)) : en_C l E M_X12_isFar 1 0 0 [.long (a4.toInt64)] h (pR (some (.int (Int32.ofInt 0))) h) := by
  refine en_mk m_X12_isFar rfl hl (Nat.le_of_ble_eq_true rfl) ?_
  refine x_lload_n (M := M_X12_isFar) dX12_isFar_0 rfl ?_
  refine x_ldc2 (M := M_X12_isFar) dX12_isFar_1 t_3136 ?_
  refine x_ldc2 (M := M_X12_isFar) dX12_isFar_4 t_2937 ?_
  refine x_norm (M := M_X12_isFar) (st' := [.long (Int64.ofInt 1000000000), .long (Int64.ofInt (-1000000000)), .long (a4.toInt64)]) rfl (vj_cons (by decide +kernel : (1000000000 : Int64) = (Int64.ofInt 1000000000)) (vj_cons (by decide +kernel : (-1000000000 : Int64) = (Int64.ofInt (-1000000000))) rfl)) rfl rfl rfl ?_
  refine x_callSR (M := M_X12_isFar) (M' := M_X12_in) rfl rfl dX12_isFar_7 m_X12_in t_2818 t_2819 (q6203 hl c0 c1) rfl rfl (Nat.le_of_ble_eq_true rfl) (Nat.le_of_ble_eq_true rfl) (Nat.le_of_ble_eq_true rfl) (Nat.le_of_ble_eq_true rfl) ?_
  exact x_zret (M := M_X12_isFar) dX12_isFar_10 rfl (by decide) ⟨rfl, rfl⟩ (Nat.le_of_ble_eq_true rfl) (Nat.le_of_ble_eq_true rfl)
set_option maxRecDepth 10000 in
theorem q6209 {l : Launch} {E : EE} (hl : l.stackTraces = false) {h : HP} {a0 : Int32} {a1 : Int32} {a2 : Int32} {a3 : Int32} {a4 : Int32} {dg : Int32} (c0 : ¬ (a0.toInt < 0)) (c1 : ¬ (2 < a0.toInt)) (c2 : ¬ (a1.toInt < (-1000000000))) (c3 : ¬ (a2.toInt < (-1000000000))) (c4 : ¬ (1000000000 < a3.toInt)) (c5 : ¬ (1000000000 < a4.toInt)) (c6 : a3.toInt < a1.toInt) (c7 : ¬ (1000000000 < a1.toInt)) (c8 : ¬ (1000000000 < a2.toInt)) (c9 : ¬ (a3.toInt < (-1000000000))) (c10 : a4.toInt < (-1000000000)) (o6199 : ob h 277 = some (.inr (15, (RB dg)))) : en_C l E M_X12_find 2 0 0 [.ref 277, .int a0, .int a1, .int a2, .int a3, .int a4] h (pF (some (.int (Int32.ofInt 0))) [277] h (fun h' => ob h' 277 = some (.inr (15, ((RB dg).set 0 (.int (Int32.ofInt 1))))) ∧ True)) := by
  refine en_mk m_X12_find rfl hl (Nat.le_of_ble_eq_true rfl) ?_
  refine x_aload_n (M := M_X12_find) dX12_find_0 rfl ?_
  refine x_iconst (M := M_X12_find) dX12_find_1 ?_
  refine y_put (M := M_X12_find) (ci := 15) (C := RX12) (T := TX12) (N := 135) (ty := tyX12) cl15 dX12_find_2 o6199 0 (by decide) t_2391 (Or.inl rfl) (Nat.le_of_ble_eq_true rfl) rfl (fun h6200 w6201 f6202 => ?_)
  refine x_iload_n (M := M_X12_find) dX12_find_5 rfl ?_
  refine x_i2l (M := M_X12_find) dX12_find_6 ?_
  refine x_lconst (M := M_X12_find) dX12_find_7 ?_
  refine x_ldc2 (M := M_X12_find) dX12_find_8 t_3091 ?_
  refine x_norm (M := M_X12_find) (st' := [.long (Int64.ofInt 2), .long (Int64.ofInt 0), .long (a0.toInt64)]) rfl (vj_cons (by decide +kernel : (2 : Int64) = (Int64.ofInt 2)) (vj_cons (by decide +kernel : (Int64.ofNat ((0 : Fin 2) : Nat)) = (Int64.ofInt 0)) rfl)) rfl rfl rfl ?_
  refine x_callSR (M := M_X12_find) (M' := M_X12_in) rfl rfl dX12_find_11 m_X12_in t_2818 t_2819 (q5833 hl c0 c1) rfl rfl (Nat.le_of_ble_eq_true rfl) (Nat.le_of_ble_eq_true rfl) (Nat.le_of_ble_eq_true rfl) (Nat.le_of_ble_eq_true rfl) ?_
  refine x_if_eq (M := M_X12_find) (tgt := 67) dX12_find_14 (by decide) (fun q => absurd q (by decide +kernel)) (fun _ => ?_)
  refine x_iload_n (M := M_X12_find) dX12_find_17 rfl ?_
  refine x_i2l (M := M_X12_find) dX12_find_18 ?_
  refine x_callSR (M := M_X12_find) (M' := M_X12_isFar) rfl rfl dX12_find_19 m_X12_isFar t_3133 t_3134 (q5646 hl c2 c7) rfl rfl (Nat.le_of_ble_eq_true rfl) (Nat.le_of_ble_eq_true rfl) (Nat.le_of_ble_eq_true rfl) (Nat.le_of_ble_eq_true rfl) ?_
  refine x_if_eq (M := M_X12_find) (tgt := 67) dX12_find_22 (by decide) (fun q => absurd q (by decide +kernel)) (fun _ => ?_)
  refine x_iload_n (M := M_X12_find) dX12_find_25 rfl ?_
  refine x_i2l (M := M_X12_find) dX12_find_26 ?_
  refine x_callSR (M := M_X12_find) (M' := M_X12_isFar) rfl rfl dX12_find_27 m_X12_isFar t_3133 t_3134 (q5972 hl c3 c8) rfl rfl (Nat.le_of_ble_eq_true rfl) (Nat.le_of_ble_eq_true rfl) (Nat.le_of_ble_eq_true rfl) (Nat.le_of_ble_eq_true rfl) ?_
  refine x_if_eq (M := M_X12_find) (tgt := 67) dX12_find_30 (by decide) (fun q => absurd q (by decide +kernel)) (fun _ => ?_)
  refine x_iload (M := M_X12_find) dX12_find_33 rfl ?_
  refine x_i2l (M := M_X12_find) dX12_find_35 ?_
  refine x_callSR (M := M_X12_find) (M' := M_X12_isFar) rfl rfl dX12_find_36 m_X12_isFar t_3133 t_3134 (q6085 hl c4 c9) rfl rfl (Nat.le_of_ble_eq_true rfl) (Nat.le_of_ble_eq_true rfl) (Nat.le_of_ble_eq_true rfl) (Nat.le_of_ble_eq_true rfl) ?_
  refine x_if_eq (M := M_X12_find) (tgt := 67) dX12_find_39 (by decide) (fun q => absurd q (by decide +kernel)) (fun _ => ?_)
  refine x_iload (M := M_X12_find) dX12_find_42 rfl ?_
  refine x_i2l (M := M_X12_find) dX12_find_44 ?_
  refine x_callSR (M := M_X12_find) (M' := M_X12_isFar) rfl rfl dX12_find_45 m_X12_isFar t_3133 t_3134 (q6204 hl c5 c10) rfl rfl (Nat.le_of_ble_eq_true rfl) (Nat.le_of_ble_eq_true rfl) (Nat.le_of_ble_eq_true rfl) (Nat.le_of_ble_eq_true rfl) ?_
  refine x_if_eq (M := M_X12_find) (tgt := 67) dX12_find_48 (by decide) (fun _ => ?_) (fun q => absurd q (by decide +kernel))
  refine x_iconst (M := M_X12_find) dX12_find_67 ?_
  refine x_istore (M := M_X12_find) dX12_find_68 (Nat.le_of_ble_eq_true rfl) rfl ?_
  refine x_aload_n (M := M_X12_find) dX12_find_70 rfl ?_
  refine x_iload (M := M_X12_find) dX12_find_71 rfl ?_
  refine x_if_ne (M := M_X12_find) (tgt := 80) dX12_find_73 (by decide) (fun q => absurd q (by decide +kernel)) (fun _ => ?_)
  refine x_iconst (M := M_X12_find) dX12_find_76 ?_
  refine x_goto (M := M_X12_find) (tgt := 81) dX12_find_77 (by decide) ?_
  refine x_iconst (M := M_X12_find) dX12_find_81 ?_
  refine y_callVR (M := M_X12_find) (M' := M_X12_fails) rfl rfl dX12_find_82 m_X12_fails t_2805 t_2807 s_157 (q22 hl w6201) rfl rfl w6201 rfl (Nat.le_of_ble_eq_true rfl) (Nat.le_of_ble_eq_true rfl) (Nat.le_of_ble_eq_true rfl) (Nat.le_of_ble_eq_true rfl) (fun h6205 f6206 w6207 => ?_)
  obtain ⟨o6208, -⟩ := w6207
  refine x_if_eq (M := M_X12_find) (tgt := 90) dX12_find_85 (by decide) (fun q => absurd q (by decide +kernel)) (fun _ => ?_)
  refine x_iconst (M := M_X12_find) dX12_find_88 ?_
  exact x_iret (M := M_X12_find) dX12_find_89 rfl ⟨rfl, (fr_tr f6206 (by decide) (fr_tr f6202 (by decide) fr_rf)), ⟨o6208, trivial⟩⟩ (Nat.le_of_ble_eq_true rfl) (Nat.le_of_ble_eq_true rfl)
set_option maxRecDepth 10000 in
theorem lc23_15 {l : Launch} {E : EE} (hl : l.stackTraces = false) (nm : String) {xs : Nat → Int32} (hx : E.2.2.2.2 0 = some (7, xs)) {h : HP} {a0 : Int32} {a1 : Int32} {a2 : Int32} {a3 : Int32} {a4 : Int32} {dg : Int32} (e2 : xs 2 = a0) (e3 : xs 3 = a1) (e4 : xs 4 = a2) (e5 : xs 5 = a3) (e6 : xs 6 = a4) (c0 : ¬ (a0.toInt < 0)) (c1 : ¬ (2 < a0.toInt)) (c2 : ¬ (a1.toInt < (-1000000000))) (c3 : ¬ (a2.toInt < (-1000000000))) (c4 : ¬ (1000000000 < a3.toInt)) (c5 : ¬ (1000000000 < a4.toInt)) (c6 : a3.toInt < a1.toInt) (c7 : ¬ (1000000000 < a1.toInt)) (c8 : ¬ (1000000000 < a2.toInt)) (c9 : ¬ (a3.toInt < (-1000000000))) (c10 : a4.toInt < (-1000000000)) (o6195 : ob h 32 = some (.inr (14, [.ref 33, .ref 162, .ref 166, .int (0 : Int32), .int (0 : Int32), .int (0 : Int32), .ref 167, .ref 170, .ref 173, .ref 177, .ref 193, .ref 208, .ref 222, .ref 238, .ref 252, .ref 274, .ref 275, .ref 276, .int (0 : Int32)]))) (o6210 : ob h 277 = some (.inr (15, (RB dg)))) : XX l E (M_law nm) 1312 342628 8074320 (fun o _ => o = .inl (some (.int 1))) 1697 [some (.ref 0), some (.ref 32), some (.ref 277), some (.ref 359), some (.int (Int32.ofInt 1)), none, none, none] [] h 328 2463747 := by
  refine x_aload_n (M := (M_law nm)) dL_law_1697 rfl ?_
  refine x_aload_n (M := (M_law nm)) dL_law_1698 rfl ?_
  refine x_iload (M := (M_law nm)) dL_law_1699 rfl ?_
  refine x_iconst (M := (M_law nm)) dL_law_1701 ?_
  refine x_iadd (M := (M_law nm)) dL_law_1702 ?_
  refine x_sald (M := (M_law nm)) dL_law_1703 (by decide) hx (vp_inD (by decide +kernel)) ?_
  refine x_top (M := (M_law nm)) (y := a0) ((congrArg xs (by decide +kernel : ((Int32.ofInt 1) + (Int32.ofInt 1)).toNatClampNeg = 2)).trans e2) ?_
  refine x_aload_n (M := (M_law nm)) dL_law_1704 rfl ?_
  refine x_iload (M := (M_law nm)) dL_law_1705 rfl ?_
  refine x_iconst (M := (M_law nm)) dL_law_1707 ?_
  refine x_iadd (M := (M_law nm)) dL_law_1708 ?_
  refine x_sald (M := (M_law nm)) dL_law_1709 (by decide) hx (vp_inD (by decide +kernel)) ?_
  refine x_top (M := (M_law nm)) (y := a1) ((congrArg xs (by decide +kernel : ((Int32.ofInt 1) + (Int32.ofInt 2)).toNatClampNeg = 3)).trans e3) ?_
  refine x_aload_n (M := (M_law nm)) dL_law_1710 rfl ?_
  refine x_iload (M := (M_law nm)) dL_law_1711 rfl ?_
  refine x_iconst (M := (M_law nm)) dL_law_1713 ?_
  refine x_iadd (M := (M_law nm)) dL_law_1714 ?_
  refine x_sald (M := (M_law nm)) dL_law_1715 (by decide) hx (vp_inD (by decide +kernel)) ?_
  refine x_top (M := (M_law nm)) (y := a2) ((congrArg xs (by decide +kernel : ((Int32.ofInt 1) + (Int32.ofInt 3)).toNatClampNeg = 4)).trans e4) ?_
  refine x_aload_n (M := (M_law nm)) dL_law_1716 rfl ?_
  refine x_iload (M := (M_law nm)) dL_law_1717 rfl ?_
  refine x_iconst (M := (M_law nm)) dL_law_1719 ?_
  refine x_iadd (M := (M_law nm)) dL_law_1720 ?_
  refine x_sald (M := (M_law nm)) dL_law_1721 (by decide) hx (vp_inD (by decide +kernel)) ?_
  refine x_top (M := (M_law nm)) (y := a3) ((congrArg xs (by decide +kernel : ((Int32.ofInt 1) + (Int32.ofInt 4)).toNatClampNeg = 5)).trans e5) ?_
  refine x_aload_n (M := (M_law nm)) dL_law_1722 rfl ?_
  refine x_iload (M := (M_law nm)) dL_law_1723 rfl ?_
  refine x_iconst (M := (M_law nm)) dL_law_1725 ?_
  refine x_iadd (M := (M_law nm)) dL_law_1726 ?_
  refine x_sald (M := (M_law nm)) dL_law_1727 (by decide) hx (vp_inD (by decide +kernel)) ?_
  refine x_top (M := (M_law nm)) (y := a4) ((congrArg xs (by decide +kernel : ((Int32.ofInt 1) + (Int32.ofInt 5)).toNatClampNeg = 6)).trans e6) ?_
  refine x_aload_n (M := (M_law nm)) dL_law_1728 rfl ?_
  refine y_callSW (M := (M_law nm)) (M' := M_L_find) rfl rfl dL_law_1729 m_L_find t_2242 t_2243 (q6105 hl c0 c1 c2 c3 c4 c5 c6 o6195) rfl rfl (Nat.le_of_ble_eq_true rfl) (Nat.le_of_ble_eq_true rfl) (Nat.le_of_ble_eq_true rfl) (Nat.le_of_ble_eq_true rfl) (fun h6196 f6197 w6198 => ?_)
  refine x_istore (M := (M_law nm)) dL_law_1732 (Nat.le_of_ble_eq_true rfl) rfl ?_
  refine x_aload_n (M := (M_law nm)) dL_law_1734 rfl ?_
  refine x_aload_n (M := (M_law nm)) dL_law_1735 rfl ?_
  refine x_iload (M := (M_law nm)) dL_law_1736 rfl ?_
  refine x_iconst (M := (M_law nm)) dL_law_1738 ?_
  refine x_iadd (M := (M_law nm)) dL_law_1739 ?_
  refine x_sald (M := (M_law nm)) dL_law_1740 (by decide) hx (vp_inD (by decide +kernel)) ?_
  refine x_top (M := (M_law nm)) (y := a0) ((congrArg xs (by decide +kernel : ((Int32.ofInt 1) + (Int32.ofInt 1)).toNatClampNeg = 2)).trans e2) ?_
  refine x_aload_n (M := (M_law nm)) dL_law_1741 rfl ?_
  refine x_iload (M := (M_law nm)) dL_law_1742 rfl ?_
  refine x_iconst (M := (M_law nm)) dL_law_1744 ?_
  refine x_iadd (M := (M_law nm)) dL_law_1745 ?_
  refine x_sald (M := (M_law nm)) dL_law_1746 (by decide) hx (vp_inD (by decide +kernel)) ?_
  refine x_top (M := (M_law nm)) (y := a1) ((congrArg xs (by decide +kernel : ((Int32.ofInt 1) + (Int32.ofInt 2)).toNatClampNeg = 3)).trans e3) ?_
  refine x_aload_n (M := (M_law nm)) dL_law_1747 rfl ?_
  refine x_iload (M := (M_law nm)) dL_law_1748 rfl ?_
  refine x_iconst (M := (M_law nm)) dL_law_1750 ?_
  refine x_iadd (M := (M_law nm)) dL_law_1751 ?_
  refine x_sald (M := (M_law nm)) dL_law_1752 (by decide) hx (vp_inD (by decide +kernel)) ?_
  refine x_top (M := (M_law nm)) (y := a2) ((congrArg xs (by decide +kernel : ((Int32.ofInt 1) + (Int32.ofInt 3)).toNatClampNeg = 4)).trans e4) ?_
  refine x_aload_n (M := (M_law nm)) dL_law_1753 rfl ?_
  refine x_iload (M := (M_law nm)) dL_law_1754 rfl ?_
  refine x_iconst (M := (M_law nm)) dL_law_1756 ?_
  refine x_iadd (M := (M_law nm)) dL_law_1757 ?_
  refine x_sald (M := (M_law nm)) dL_law_1758 (by decide) hx (vp_inD (by decide +kernel)) ?_
  refine x_top (M := (M_law nm)) (y := a3) ((congrArg xs (by decide +kernel : ((Int32.ofInt 1) + (Int32.ofInt 4)).toNatClampNeg = 5)).trans e5) ?_
  refine x_aload_n (M := (M_law nm)) dL_law_1759 rfl ?_
  refine x_iload (M := (M_law nm)) dL_law_1760 rfl ?_
  refine x_iconst (M := (M_law nm)) dL_law_1762 ?_
  refine x_iadd (M := (M_law nm)) dL_law_1763 ?_
  refine x_sald (M := (M_law nm)) dL_law_1764 (by decide) hx (vp_inD (by decide +kernel)) ?_
  refine x_top (M := (M_law nm)) (y := a4) ((congrArg xs (by decide +kernel : ((Int32.ofInt 1) + (Int32.ofInt 5)).toNatClampNeg = 6)).trans e6) ?_
  have o6211 := (f6197 277 _ (by decide) o6210)
  refine y_callVR (M := (M_law nm)) (M' := M_X12_find) rfl rfl dL_law_1765 m_X12_find t_3129 t_3130 t_3131 (q6209 hl c0 c1 c2 c3 c4 c5 c6 c7 c8 c9 c10 o6211) rfl rfl o6211 rfl (Nat.le_of_ble_eq_true rfl) (Nat.le_of_ble_eq_true rfl) (Nat.le_of_ble_eq_true rfl) (Nat.le_of_ble_eq_true rfl) (fun h6212 f6213 w6214 => ?_)
  obtain ⟨o6215, -⟩ := w6214
  refine x_istore (M := (M_law nm)) dL_law_1768 (Nat.le_of_ble_eq_true rfl) rfl ?_
  refine x_aload_n (M := (M_law nm)) dL_law_1770 rfl ?_
  refine x_callVR (M := (M_law nm)) (M' := M_X12_thrown) rfl rfl dL_law_1771 m_X12_thrown t_2797 t_2798 t_2799 (q35 hl o6215) rfl rfl o6215 rfl (Nat.le_of_ble_eq_true rfl) (Nat.le_of_ble_eq_true rfl) (Nat.le_of_ble_eq_true rfl) (Nat.le_of_ble_eq_true rfl) ?_
  refine x_iload (M := (M_law nm)) dL_law_1774 rfl ?_
  refine x_icmp_eq (M := (M_law nm)) (tgt := 1781) dL_law_1776 (by decide) (fun _ => ?_) (fun q => absurd q (by decide +kernel))
  refine x_iload (M := (M_law nm)) dL_law_1781 rfl ?_
  refine x_if_ne (M := (M_law nm)) (tgt := 1798) dL_law_1783 (by decide) (fun _ => ?_) (fun q => absurd q (by decide +kernel))
  refine x_goto (M := (M_law nm)) (tgt := 2449) dL_law_1798 (by decide) ?_
  refine x_iinc (M := (M_law nm)) dL_law_2449 rfl (Nat.le_of_ble_eq_true rfl) rfl ?_
  refine x_lvs (M := (M_law nm)) (lv' := [some (.ref 0), some (.ref 32), some (.ref 277), some (.ref 359), some (.int (Int32.ofInt 7)), some (.int (Int32.ofInt 1)), some (.int (Int32.ofInt 0)), none]) (by rw [(by decide +kernel : (Int32.ofInt 1) + Int32.ofInt 6 = (Int32.ofInt 7))] <;> rfl) ?_
  refine x_goto (M := (M_law nm)) (tgt := 33) dL_law_2452 (by decide) ?_
  refine x_iload (M := (M_law nm)) dL_law_33 rfl ?_
  refine x_aload_n (M := (M_law nm)) dL_law_35 rfl ?_
  refine x_slen (M := (M_law nm)) dL_law_36 (by decide) hx ?_
  refine x_bipush (M := (M_law nm)) dL_law_37 ?_
  refine x_isub (M := (M_law nm)) dL_law_39 ?_
  refine x_icmp_gt (M := (M_law nm)) (tgt := 2455) dL_law_40 (by decide) (fun _ => ?_) (fun q => absurd q (by decide +kernel))
  refine x_iconst (M := (M_law nm)) dL_law_2455 ?_
  exact x_zret (M := (M_law nm)) dL_law_2456 rfl (by decide) rfl (Nat.le_of_ble_eq_true rfl) (Nat.le_of_ble_eq_true rfl)
set_option maxRecDepth 10000 in
theorem q6224 {l : Launch} {E : EE} (hl : l.stackTraces = false) {h : HP} {a4 : Int32} (c0 : ¬ (1000000000 < a4.toInt)) (c1 : ¬ (a4.toInt < (-1000000000))) : en_C l E M_X12_in 0 0 0 [.long (a4.toInt64), .long (Int64.ofInt (-1000000000)), .long (Int64.ofInt 1000000000)] h (pR (some (.int (Int32.ofInt 1))) h) := by
  refine en_mk m_X12_in rfl hl (Nat.le_of_ble_eq_true rfl) ?_
  refine x_lload_n (M := M_X12_in) dX12_in_0 rfl ?_
  refine x_lload_n (M := M_X12_in) dX12_in_1 rfl ?_
  refine x_lcmp (M := M_X12_in) dX12_in_2 ?_
  refine x_if_lt (M := M_X12_in) (tgt := 17) dX12_in_3 (by decide) (fun q => absurd ((bc_lt (i_i2l rfl) (by decide +kernel)).mp q) (by omega : ¬ (a4.toInt < (-1000000000)))) (fun _ => ?_)
  refine x_lload_n (M := M_X12_in) dX12_in_6 rfl ?_
  refine x_lload (M := M_X12_in) dX12_in_7 rfl ?_
  refine x_lcmp (M := M_X12_in) dX12_in_9 ?_
  refine x_if_gt (M := M_X12_in) (tgt := 17) dX12_in_10 (by decide) (fun q => absurd ((bc_gt (i_i2l rfl) (by decide +kernel)).mp q) (by omega : ¬ (1000000000 < a4.toInt))) (fun _ => ?_)
  refine x_iconst (M := M_X12_in) dX12_in_13 ?_
  refine x_goto (M := M_X12_in) (tgt := 18) dX12_in_14 (by decide) ?_
  exact x_zret (M := M_X12_in) dX12_in_18 rfl (by decide) ⟨rfl, rfl⟩ (Nat.le_of_ble_eq_true rfl) (Nat.le_of_ble_eq_true rfl)
set_option maxRecDepth 10000 in
theorem q6225 {l : Launch} {E : EE} (hl : l.stackTraces = false) {h : HP} {a4 : Int32} (c0 : ¬ (1000000000 < a4.toInt)) (c1 : ¬ (a4.toInt < (-1000000000))) : en_C l E M_X12_isFar 1 0 0 [.long (a4.toInt64)] h (pR (some (.int (Int32.ofInt 1))) h) := by
  refine en_mk m_X12_isFar rfl hl (Nat.le_of_ble_eq_true rfl) ?_
  refine x_lload_n (M := M_X12_isFar) dX12_isFar_0 rfl ?_
  refine x_ldc2 (M := M_X12_isFar) dX12_isFar_1 t_3136 ?_
  refine x_ldc2 (M := M_X12_isFar) dX12_isFar_4 t_2937 ?_
  refine x_norm (M := M_X12_isFar) (st' := [.long (Int64.ofInt 1000000000), .long (Int64.ofInt (-1000000000)), .long (a4.toInt64)]) rfl (vj_cons (by decide +kernel : (1000000000 : Int64) = (Int64.ofInt 1000000000)) (vj_cons (by decide +kernel : (-1000000000 : Int64) = (Int64.ofInt (-1000000000))) rfl)) rfl rfl rfl ?_
  refine x_callSR (M := M_X12_isFar) (M' := M_X12_in) rfl rfl dX12_isFar_7 m_X12_in t_2818 t_2819 (q6224 hl c0 c1) rfl rfl (Nat.le_of_ble_eq_true rfl) (Nat.le_of_ble_eq_true rfl) (Nat.le_of_ble_eq_true rfl) (Nat.le_of_ble_eq_true rfl) ?_
  exact x_zret (M := M_X12_isFar) dX12_isFar_10 rfl (by decide) ⟨rfl, rfl⟩ (Nat.le_of_ble_eq_true rfl) (Nat.le_of_ble_eq_true rfl)
set_option maxRecDepth 10000 in
theorem q6230 {l : Launch} {E : EE} (hl : l.stackTraces = false) {h : HP} {a0 : Int32} {a1 : Int32} {a2 : Int32} {a3 : Int32} {a4 : Int32} {dg : Int32} (c0 : ¬ (a0.toInt < 0)) (c1 : ¬ (2 < a0.toInt)) (c2 : ¬ (a1.toInt < (-1000000000))) (c3 : ¬ (a2.toInt < (-1000000000))) (c4 : ¬ (1000000000 < a3.toInt)) (c5 : ¬ (1000000000 < a4.toInt)) (c6 : a3.toInt < a1.toInt) (c7 : ¬ (1000000000 < a1.toInt)) (c8 : ¬ (1000000000 < a2.toInt)) (c9 : ¬ (a3.toInt < (-1000000000))) (c10 : ¬ (a4.toInt < (-1000000000))) (o6220 : ob h 277 = some (.inr (15, (RB dg)))) : en_C l E M_X12_find 2 0 0 [.ref 277, .int a0, .int a1, .int a2, .int a3, .int a4] h (pF (some (.int (Int32.ofInt 0))) [277] h (fun h' => ob h' 277 = some (.inr (15, ((RB dg).set 0 (.int (Int32.ofInt 1))))) ∧ True)) := by
  refine en_mk m_X12_find rfl hl (Nat.le_of_ble_eq_true rfl) ?_
  refine x_aload_n (M := M_X12_find) dX12_find_0 rfl ?_
  refine x_iconst (M := M_X12_find) dX12_find_1 ?_
  refine y_put (M := M_X12_find) (ci := 15) (C := RX12) (T := TX12) (N := 135) (ty := tyX12) cl15 dX12_find_2 o6220 0 (by decide) t_2391 (Or.inl rfl) (Nat.le_of_ble_eq_true rfl) rfl (fun h6221 w6222 f6223 => ?_)
  refine x_iload_n (M := M_X12_find) dX12_find_5 rfl ?_
  refine x_i2l (M := M_X12_find) dX12_find_6 ?_
  refine x_lconst (M := M_X12_find) dX12_find_7 ?_
  refine x_ldc2 (M := M_X12_find) dX12_find_8 t_3091 ?_
  refine x_norm (M := M_X12_find) (st' := [.long (Int64.ofInt 2), .long (Int64.ofInt 0), .long (a0.toInt64)]) rfl (vj_cons (by decide +kernel : (2 : Int64) = (Int64.ofInt 2)) (vj_cons (by decide +kernel : (Int64.ofNat ((0 : Fin 2) : Nat)) = (Int64.ofInt 0)) rfl)) rfl rfl rfl ?_
  refine x_callSR (M := M_X12_find) (M' := M_X12_in) rfl rfl dX12_find_11 m_X12_in t_2818 t_2819 (q5833 hl c0 c1) rfl rfl (Nat.le_of_ble_eq_true rfl) (Nat.le_of_ble_eq_true rfl) (Nat.le_of_ble_eq_true rfl) (Nat.le_of_ble_eq_true rfl) ?_
  refine x_if_eq (M := M_X12_find) (tgt := 67) dX12_find_14 (by decide) (fun q => absurd q (by decide +kernel)) (fun _ => ?_)
  refine x_iload_n (M := M_X12_find) dX12_find_17 rfl ?_
  refine x_i2l (M := M_X12_find) dX12_find_18 ?_
  refine x_callSR (M := M_X12_find) (M' := M_X12_isFar) rfl rfl dX12_find_19 m_X12_isFar t_3133 t_3134 (q5646 hl c2 c7) rfl rfl (Nat.le_of_ble_eq_true rfl) (Nat.le_of_ble_eq_true rfl) (Nat.le_of_ble_eq_true rfl) (Nat.le_of_ble_eq_true rfl) ?_
  refine x_if_eq (M := M_X12_find) (tgt := 67) dX12_find_22 (by decide) (fun q => absurd q (by decide +kernel)) (fun _ => ?_)
  refine x_iload_n (M := M_X12_find) dX12_find_25 rfl ?_
  refine x_i2l (M := M_X12_find) dX12_find_26 ?_
  refine x_callSR (M := M_X12_find) (M' := M_X12_isFar) rfl rfl dX12_find_27 m_X12_isFar t_3133 t_3134 (q5972 hl c3 c8) rfl rfl (Nat.le_of_ble_eq_true rfl) (Nat.le_of_ble_eq_true rfl) (Nat.le_of_ble_eq_true rfl) (Nat.le_of_ble_eq_true rfl) ?_
  refine x_if_eq (M := M_X12_find) (tgt := 67) dX12_find_30 (by decide) (fun q => absurd q (by decide +kernel)) (fun _ => ?_)
  refine x_iload (M := M_X12_find) dX12_find_33 rfl ?_
  refine x_i2l (M := M_X12_find) dX12_find_35 ?_
  refine x_callSR (M := M_X12_find) (M' := M_X12_isFar) rfl rfl dX12_find_36 m_X12_isFar t_3133 t_3134 (q6085 hl c4 c9) rfl rfl (Nat.le_of_ble_eq_true rfl) (Nat.le_of_ble_eq_true rfl) (Nat.le_of_ble_eq_true rfl) (Nat.le_of_ble_eq_true rfl) ?_
  refine x_if_eq (M := M_X12_find) (tgt := 67) dX12_find_39 (by decide) (fun q => absurd q (by decide +kernel)) (fun _ => ?_)
  refine x_iload (M := M_X12_find) dX12_find_42 rfl ?_
  refine x_i2l (M := M_X12_find) dX12_find_44 ?_
  refine x_callSR (M := M_X12_find) (M' := M_X12_isFar) rfl rfl dX12_find_45 m_X12_isFar t_3133 t_3134 (q6225 hl c5 c10) rfl rfl (Nat.le_of_ble_eq_true rfl) (Nat.le_of_ble_eq_true rfl) (Nat.le_of_ble_eq_true rfl) (Nat.le_of_ble_eq_true rfl) ?_
  refine x_if_eq (M := M_X12_find) (tgt := 67) dX12_find_48 (by decide) (fun q => absurd q (by decide +kernel)) (fun _ => ?_)
  refine x_iload_n (M := M_X12_find) dX12_find_51 rfl ?_
  refine x_iload (M := M_X12_find) dX12_find_52 rfl ?_
  refine x_icmp_gt (M := M_X12_find) (tgt := 67) dX12_find_54 (by decide) (fun _ => ?_) (fun q => absurd ((bi_lt rfl rfl).mpr (by omega : (a3.toInt < a1.toInt : Prop))) q)
  refine x_iconst (M := M_X12_find) dX12_find_67 ?_
  refine x_istore (M := M_X12_find) dX12_find_68 (Nat.le_of_ble_eq_true rfl) rfl ?_
  refine x_aload_n (M := M_X12_find) dX12_find_70 rfl ?_
  refine x_iload (M := M_X12_find) dX12_find_71 rfl ?_
  refine x_if_ne (M := M_X12_find) (tgt := 80) dX12_find_73 (by decide) (fun q => absurd q (by decide +kernel)) (fun _ => ?_)
  refine x_iconst (M := M_X12_find) dX12_find_76 ?_
  refine x_goto (M := M_X12_find) (tgt := 81) dX12_find_77 (by decide) ?_
  refine x_iconst (M := M_X12_find) dX12_find_81 ?_
  refine y_callVR (M := M_X12_find) (M' := M_X12_fails) rfl rfl dX12_find_82 m_X12_fails t_2805 t_2807 s_157 (q22 hl w6222) rfl rfl w6222 rfl (Nat.le_of_ble_eq_true rfl) (Nat.le_of_ble_eq_true rfl) (Nat.le_of_ble_eq_true rfl) (Nat.le_of_ble_eq_true rfl) (fun h6226 f6227 w6228 => ?_)
  obtain ⟨o6229, -⟩ := w6228
  refine x_if_eq (M := M_X12_find) (tgt := 90) dX12_find_85 (by decide) (fun q => absurd q (by decide +kernel)) (fun _ => ?_)
  refine x_iconst (M := M_X12_find) dX12_find_88 ?_
  exact x_iret (M := M_X12_find) dX12_find_89 rfl ⟨rfl, (fr_tr f6227 (by decide) (fr_tr f6223 (by decide) fr_rf)), ⟨o6229, trivial⟩⟩ (Nat.le_of_ble_eq_true rfl) (Nat.le_of_ble_eq_true rfl)
set_option maxRecDepth 10000 in
theorem lc23_16 {l : Launch} {E : EE} (hl : l.stackTraces = false) (nm : String) {xs : Nat → Int32} (hx : E.2.2.2.2 0 = some (7, xs)) {h : HP} {a0 : Int32} {a1 : Int32} {a2 : Int32} {a3 : Int32} {a4 : Int32} {dg : Int32} (e2 : xs 2 = a0) (e3 : xs 3 = a1) (e4 : xs 4 = a2) (e5 : xs 5 = a3) (e6 : xs 6 = a4) (c0 : ¬ (a0.toInt < 0)) (c1 : ¬ (2 < a0.toInt)) (c2 : ¬ (a1.toInt < (-1000000000))) (c3 : ¬ (a2.toInt < (-1000000000))) (c4 : ¬ (1000000000 < a3.toInt)) (c5 : ¬ (1000000000 < a4.toInt)) (c6 : a3.toInt < a1.toInt) (c7 : ¬ (1000000000 < a1.toInt)) (c8 : ¬ (1000000000 < a2.toInt)) (c9 : ¬ (a3.toInt < (-1000000000))) (c10 : ¬ (a4.toInt < (-1000000000))) (o6216 : ob h 32 = some (.inr (14, [.ref 33, .ref 162, .ref 166, .int (0 : Int32), .int (0 : Int32), .int (0 : Int32), .ref 167, .ref 170, .ref 173, .ref 177, .ref 193, .ref 208, .ref 222, .ref 238, .ref 252, .ref 274, .ref 275, .ref 276, .int (0 : Int32)]))) (o6231 : ob h 277 = some (.inr (15, (RB dg)))) : XX l E (M_law nm) 1312 342628 8074320 (fun o _ => o = .inl (some (.int 1))) 1697 [some (.ref 0), some (.ref 32), some (.ref 277), some (.ref 359), some (.int (Int32.ofInt 1)), none, none, none] [] h 328 2463747 := by
  refine x_aload_n (M := (M_law nm)) dL_law_1697 rfl ?_
  refine x_aload_n (M := (M_law nm)) dL_law_1698 rfl ?_
  refine x_iload (M := (M_law nm)) dL_law_1699 rfl ?_
  refine x_iconst (M := (M_law nm)) dL_law_1701 ?_
  refine x_iadd (M := (M_law nm)) dL_law_1702 ?_
  refine x_sald (M := (M_law nm)) dL_law_1703 (by decide) hx (vp_inD (by decide +kernel)) ?_
  refine x_top (M := (M_law nm)) (y := a0) ((congrArg xs (by decide +kernel : ((Int32.ofInt 1) + (Int32.ofInt 1)).toNatClampNeg = 2)).trans e2) ?_
  refine x_aload_n (M := (M_law nm)) dL_law_1704 rfl ?_
  refine x_iload (M := (M_law nm)) dL_law_1705 rfl ?_
  refine x_iconst (M := (M_law nm)) dL_law_1707 ?_
  refine x_iadd (M := (M_law nm)) dL_law_1708 ?_
  refine x_sald (M := (M_law nm)) dL_law_1709 (by decide) hx (vp_inD (by decide +kernel)) ?_
  refine x_top (M := (M_law nm)) (y := a1) ((congrArg xs (by decide +kernel : ((Int32.ofInt 1) + (Int32.ofInt 2)).toNatClampNeg = 3)).trans e3) ?_
  refine x_aload_n (M := (M_law nm)) dL_law_1710 rfl ?_
  refine x_iload (M := (M_law nm)) dL_law_1711 rfl ?_
  refine x_iconst (M := (M_law nm)) dL_law_1713 ?_
  refine x_iadd (M := (M_law nm)) dL_law_1714 ?_
  refine x_sald (M := (M_law nm)) dL_law_1715 (by decide) hx (vp_inD (by decide +kernel)) ?_
  refine x_top (M := (M_law nm)) (y := a2) ((congrArg xs (by decide +kernel : ((Int32.ofInt 1) + (Int32.ofInt 3)).toNatClampNeg = 4)).trans e4) ?_
  refine x_aload_n (M := (M_law nm)) dL_law_1716 rfl ?_
  refine x_iload (M := (M_law nm)) dL_law_1717 rfl ?_
  refine x_iconst (M := (M_law nm)) dL_law_1719 ?_
  refine x_iadd (M := (M_law nm)) dL_law_1720 ?_
  refine x_sald (M := (M_law nm)) dL_law_1721 (by decide) hx (vp_inD (by decide +kernel)) ?_
  refine x_top (M := (M_law nm)) (y := a3) ((congrArg xs (by decide +kernel : ((Int32.ofInt 1) + (Int32.ofInt 4)).toNatClampNeg = 5)).trans e5) ?_
  refine x_aload_n (M := (M_law nm)) dL_law_1722 rfl ?_
  refine x_iload (M := (M_law nm)) dL_law_1723 rfl ?_
  refine x_iconst (M := (M_law nm)) dL_law_1725 ?_
  refine x_iadd (M := (M_law nm)) dL_law_1726 ?_
  refine x_sald (M := (M_law nm)) dL_law_1727 (by decide) hx (vp_inD (by decide +kernel)) ?_
  refine x_top (M := (M_law nm)) (y := a4) ((congrArg xs (by decide +kernel : ((Int32.ofInt 1) + (Int32.ofInt 5)).toNatClampNeg = 6)).trans e6) ?_
  refine x_aload_n (M := (M_law nm)) dL_law_1728 rfl ?_
  refine y_callSW (M := (M_law nm)) (M' := M_L_find) rfl rfl dL_law_1729 m_L_find t_2242 t_2243 (q6105 hl c0 c1 c2 c3 c4 c5 c6 o6216) rfl rfl (Nat.le_of_ble_eq_true rfl) (Nat.le_of_ble_eq_true rfl) (Nat.le_of_ble_eq_true rfl) (Nat.le_of_ble_eq_true rfl) (fun h6217 f6218 w6219 => ?_)
  refine x_istore (M := (M_law nm)) dL_law_1732 (Nat.le_of_ble_eq_true rfl) rfl ?_
  refine x_aload_n (M := (M_law nm)) dL_law_1734 rfl ?_
  refine x_aload_n (M := (M_law nm)) dL_law_1735 rfl ?_
  refine x_iload (M := (M_law nm)) dL_law_1736 rfl ?_
  refine x_iconst (M := (M_law nm)) dL_law_1738 ?_
  refine x_iadd (M := (M_law nm)) dL_law_1739 ?_
  refine x_sald (M := (M_law nm)) dL_law_1740 (by decide) hx (vp_inD (by decide +kernel)) ?_
  refine x_top (M := (M_law nm)) (y := a0) ((congrArg xs (by decide +kernel : ((Int32.ofInt 1) + (Int32.ofInt 1)).toNatClampNeg = 2)).trans e2) ?_
  refine x_aload_n (M := (M_law nm)) dL_law_1741 rfl ?_
  refine x_iload (M := (M_law nm)) dL_law_1742 rfl ?_
  refine x_iconst (M := (M_law nm)) dL_law_1744 ?_
  refine x_iadd (M := (M_law nm)) dL_law_1745 ?_
  refine x_sald (M := (M_law nm)) dL_law_1746 (by decide) hx (vp_inD (by decide +kernel)) ?_
  refine x_top (M := (M_law nm)) (y := a1) ((congrArg xs (by decide +kernel : ((Int32.ofInt 1) + (Int32.ofInt 2)).toNatClampNeg = 3)).trans e3) ?_
  refine x_aload_n (M := (M_law nm)) dL_law_1747 rfl ?_
  refine x_iload (M := (M_law nm)) dL_law_1748 rfl ?_
  refine x_iconst (M := (M_law nm)) dL_law_1750 ?_
  refine x_iadd (M := (M_law nm)) dL_law_1751 ?_
  refine x_sald (M := (M_law nm)) dL_law_1752 (by decide) hx (vp_inD (by decide +kernel)) ?_
  refine x_top (M := (M_law nm)) (y := a2) ((congrArg xs (by decide +kernel : ((Int32.ofInt 1) + (Int32.ofInt 3)).toNatClampNeg = 4)).trans e4) ?_
  refine x_aload_n (M := (M_law nm)) dL_law_1753 rfl ?_
  refine x_iload (M := (M_law nm)) dL_law_1754 rfl ?_
  refine x_iconst (M := (M_law nm)) dL_law_1756 ?_
  refine x_iadd (M := (M_law nm)) dL_law_1757 ?_
  refine x_sald (M := (M_law nm)) dL_law_1758 (by decide) hx (vp_inD (by decide +kernel)) ?_
  refine x_top (M := (M_law nm)) (y := a3) ((congrArg xs (by decide +kernel : ((Int32.ofInt 1) + (Int32.ofInt 4)).toNatClampNeg = 5)).trans e5) ?_
  refine x_aload_n (M := (M_law nm)) dL_law_1759 rfl ?_
  refine x_iload (M := (M_law nm)) dL_law_1760 rfl ?_
  refine x_iconst (M := (M_law nm)) dL_law_1762 ?_
  refine x_iadd (M := (M_law nm)) dL_law_1763 ?_
  refine x_sald (M := (M_law nm)) dL_law_1764 (by decide) hx (vp_inD (by decide +kernel)) ?_
  refine x_top (M := (M_law nm)) (y := a4) ((congrArg xs (by decide +kernel : ((Int32.ofInt 1) + (Int32.ofInt 5)).toNatClampNeg = 6)).trans e6) ?_
  have o6232 := (f6218 277 _ (by decide) o6231)
  refine y_callVR (M := (M_law nm)) (M' := M_X12_find) rfl rfl dL_law_1765 m_X12_find t_3129 t_3130 t_3131 (q6230 hl c0 c1 c2 c3 c4 c5 c6 c7 c8 c9 c10 o6232) rfl rfl o6232 rfl (Nat.le_of_ble_eq_true rfl) (Nat.le_of_ble_eq_true rfl) (Nat.le_of_ble_eq_true rfl) (Nat.le_of_ble_eq_true rfl) (fun h6233 f6234 w6235 => ?_)
  obtain ⟨o6236, -⟩ := w6235
  refine x_istore (M := (M_law nm)) dL_law_1768 (Nat.le_of_ble_eq_true rfl) rfl ?_
  refine x_aload_n (M := (M_law nm)) dL_law_1770 rfl ?_
  refine x_callVR (M := (M_law nm)) (M' := M_X12_thrown) rfl rfl dL_law_1771 m_X12_thrown t_2797 t_2798 t_2799 (q35 hl o6236) rfl rfl o6236 rfl (Nat.le_of_ble_eq_true rfl) (Nat.le_of_ble_eq_true rfl) (Nat.le_of_ble_eq_true rfl) (Nat.le_of_ble_eq_true rfl) ?_
  refine x_iload (M := (M_law nm)) dL_law_1774 rfl ?_
  refine x_icmp_eq (M := (M_law nm)) (tgt := 1781) dL_law_1776 (by decide) (fun _ => ?_) (fun q => absurd q (by decide +kernel))
  refine x_iload (M := (M_law nm)) dL_law_1781 rfl ?_
  refine x_if_ne (M := (M_law nm)) (tgt := 1798) dL_law_1783 (by decide) (fun _ => ?_) (fun q => absurd q (by decide +kernel))
  refine x_goto (M := (M_law nm)) (tgt := 2449) dL_law_1798 (by decide) ?_
  refine x_iinc (M := (M_law nm)) dL_law_2449 rfl (Nat.le_of_ble_eq_true rfl) rfl ?_
  refine x_lvs (M := (M_law nm)) (lv' := [some (.ref 0), some (.ref 32), some (.ref 277), some (.ref 359), some (.int (Int32.ofInt 7)), some (.int (Int32.ofInt 1)), some (.int (Int32.ofInt 0)), none]) (by rw [(by decide +kernel : (Int32.ofInt 1) + Int32.ofInt 6 = (Int32.ofInt 7))] <;> rfl) ?_
  refine x_goto (M := (M_law nm)) (tgt := 33) dL_law_2452 (by decide) ?_
  refine x_iload (M := (M_law nm)) dL_law_33 rfl ?_
  refine x_aload_n (M := (M_law nm)) dL_law_35 rfl ?_
  refine x_slen (M := (M_law nm)) dL_law_36 (by decide) hx ?_
  refine x_bipush (M := (M_law nm)) dL_law_37 ?_
  refine x_isub (M := (M_law nm)) dL_law_39 ?_
  refine x_icmp_gt (M := (M_law nm)) (tgt := 2455) dL_law_40 (by decide) (fun _ => ?_) (fun q => absurd q (by decide +kernel))
  refine x_iconst (M := (M_law nm)) dL_law_2455 ?_
  exact x_zret (M := (M_law nm)) dL_law_2456 rfl (by decide) rfl (Nat.le_of_ble_eq_true rfl) (Nat.le_of_ble_eq_true rfl)
set_option maxRecDepth 10000 in
theorem q6238 {l : Launch} {E : EE} (hl : l.stackTraces = false) {h : HP} {a0 : Int32} {a1 : Int32} {a2 : Int32} {a3 : Int32} {a4 : Int32} (c0 : ¬ (a0.toInt < 0)) (c1 : ¬ (2 < a0.toInt)) (c2 : ¬ (a1.toInt < (-1000000000))) (c3 : ¬ (a2.toInt < (-1000000000))) (c4 : ¬ (1000000000 < a3.toInt)) (c5 : ¬ (1000000000 < a4.toInt)) (c6 : ¬ (a3.toInt < a1.toInt)) (c7 : a4.toInt < a2.toInt) : en_C l E M_X11_find 6 1 6 [.ref 32, .int a0, .int a1, .int a2, .int a3, .int a4] h (pT "java/lang/IllegalArgumentException" [] h (fun _ => True)) := by
  refine en_mk m_X11_find rfl hl (Nat.le_of_ble_eq_true rfl) ?_
  refine x_iload_n (M := M_X11_find) dX11_find_0 rfl ?_
  refine x_if_lt (M := M_X11_find) (tgt := 51) dX11_find_1 (by decide) (fun q => absurd ((bi_lt rfl (by decide +kernel)).mp q) (by omega : ¬ (a0.toInt < 0))) (fun _ => ?_)
  refine x_iload_n (M := M_X11_find) dX11_find_4 rfl ?_
  refine x_iconst (M := M_X11_find) dX11_find_5 ?_
  refine x_icmp_gt (M := M_X11_find) (tgt := 51) dX11_find_6 (by decide) (fun q => absurd ((bi_lt (by decide +kernel) rfl).mp q) (by omega : ¬ (2 < a0.toInt))) (fun _ => ?_)
  refine x_iload_n (M := M_X11_find) dX11_find_9 rfl ?_
  refine x_ldcw (M := M_X11_find) dX11_find_10 t_2249 ?_
  refine x_icmp_lt (M := M_X11_find) (tgt := 51) dX11_find_13 (by decide) (fun q => absurd ((bi_lt rfl (by decide +kernel)).mp q) (by omega : ¬ (a1.toInt < (-1000000000)))) (fun _ => ?_)
  refine x_iload_n (M := M_X11_find) dX11_find_16 rfl ?_
  refine x_ldcw (M := M_X11_find) dX11_find_17 t_2249 ?_
  refine x_icmp_lt (M := M_X11_find) (tgt := 51) dX11_find_20 (by decide) (fun q => absurd ((bi_lt rfl (by decide +kernel)).mp q) (by omega : ¬ (a2.toInt < (-1000000000)))) (fun _ => ?_)
  refine x_iload (M := M_X11_find) dX11_find_23 rfl ?_
  refine x_ldcw (M := M_X11_find) dX11_find_25 t_2191 ?_
  refine x_icmp_gt (M := M_X11_find) (tgt := 51) dX11_find_28 (by decide) (fun q => absurd ((bi_lt (by decide +kernel) rfl).mp q) (by omega : ¬ (1000000000 < a3.toInt))) (fun _ => ?_)
  refine x_iload (M := M_X11_find) dX11_find_31 rfl ?_
  refine x_ldcw (M := M_X11_find) dX11_find_33 t_2191 ?_
  refine x_icmp_gt (M := M_X11_find) (tgt := 51) dX11_find_36 (by decide) (fun q => absurd ((bi_lt (by decide +kernel) rfl).mp q) (by omega : ¬ (1000000000 < a4.toInt))) (fun _ => ?_)
  refine x_iload (M := M_X11_find) dX11_find_39 rfl ?_
  refine x_iload_n (M := M_X11_find) dX11_find_41 rfl ?_
  refine x_icmp_lt (M := M_X11_find) (tgt := 51) dX11_find_42 (by decide) (fun q => absurd ((bi_lt rfl rfl).mp q) (by omega : ¬ (a3.toInt < a1.toInt))) (fun _ => ?_)
  refine x_iload (M := M_X11_find) dX11_find_45 rfl ?_
  refine x_iload_n (M := M_X11_find) dX11_find_47 rfl ?_
  refine x_icmp_ge (M := M_X11_find) (tgt := 59) dX11_find_48 (by decide) (fun q => absurd ((bi_le rfl rfl).mp q) (by omega : ¬ (a2.toInt ≤ a4.toInt))) (fun _ => ?_)
  exact x_throw (M := M_X11_find) (names := en_nm) rfl dX11_find_51 dX11_find_54 dX11_find_55 dX11_find_58 (by decide +kernel) en_nm_ok (Or.inl t_721) (Or.inl t_19) (at_X11_IllegalArgumentException_118) (Nat.le_of_ble_eq_true rfl) (Nat.le_of_ble_eq_true rfl) (Nat.le_of_ble_eq_true rfl) (Nat.le_of_ble_eq_true rfl) (fun n9 => ⟨rfl, (fr_tr (fr_app (List.replicate n9 none)) (fun _ h => nomatch h) fr_rf), trivial⟩)
set_option maxRecDepth 10000 in
theorem q6243 {l : Launch} {E : EE} (hl : l.stackTraces = false) {h : HP} {a0 : Int32} {a1 : Int32} {a2 : Int32} {a3 : Int32} {a4 : Int32} (c0 : ¬ (a0.toInt < 0)) (c1 : ¬ (2 < a0.toInt)) (c2 : ¬ (a1.toInt < (-1000000000))) (c3 : ¬ (a2.toInt < (-1000000000))) (c4 : ¬ (1000000000 < a3.toInt)) (c5 : ¬ (1000000000 < a4.toInt)) (c6 : ¬ (a3.toInt < a1.toInt)) (c7 : a4.toInt < a2.toInt) (o6239 : ob h 32 = some (.inr (14, [.ref 33, .ref 162, .ref 166, .int (0 : Int32), .int (0 : Int32), .int (0 : Int32), .ref 167, .ref 170, .ref 173, .ref 177, .ref 193, .ref 208, .ref 222, .ref 238, .ref 252, .ref 274, .ref 275, .ref 276, .int (0 : Int32)]))) : en_C l E M_L_find 7 1 6 [.ref 32, .int a0, .int a1, .int a2, .int a3, .int a4, .ref 359] h (pF (some (.int (Int32.ofInt 1))) [] h (fun _ => True)) := by
  refine en_mkW m_L_find rfl hl (Nat.le_of_ble_eq_true rfl) ?_
  refine x_aload (M := M_L_find) dL_find_0 rfl ?_
  refine x_iconst (M := M_L_find) dL_find_2 ?_
  refine x_aload_n (M := M_L_find) dL_find_3 rfl ?_
  refine x_iload_n (M := M_L_find) dL_find_4 rfl ?_
  refine x_iload_n (M := M_L_find) dL_find_5 rfl ?_
  refine x_iload_n (M := M_L_find) dL_find_6 rfl ?_
  refine x_iload (M := M_L_find) dL_find_7 rfl ?_
  refine x_iload (M := M_L_find) dL_find_9 rfl ?_
  refine y_callVHX (M := M_L_find) (M' := M_X11_find) (i9 := 7) (nx := 21) rfl dL_find_11 m_X11_find t_2245 t_2246 t_2247 o6239 rfl (q6238 hl c0 c1 c2 c3 c4 c5 c6 c7) rfl rfl (Nat.le_of_ble_eq_true rfl) (Nat.le_of_ble_eq_true rfl) (Nat.le_of_ble_eq_true rfl) (Nat.le_of_ble_eq_true rfl) (en_hdm (k0 := 7) [] [] rfl (fun _ h => nomatch h) (by decide +kernel) (by decide) t_716 n_723 dL_find_19) (by decide) rfl (fun h6240 f6241 w6242 => ?_)
  refine x_iconst (M := M_L_find) dL_find_21 ?_
  exact x_iret (M := M_L_find) dL_find_22 rfl ⟨rfl, (fr_tr f6241 (fun _ h => nomatch h) fr_rf), trivial⟩ (Nat.le_of_ble_eq_true rfl) (Nat.le_of_ble_eq_true rfl)
set_option maxRecDepth 10000 in
theorem q6252 {l : Launch} {E : EE} (hl : l.stackTraces = false) {h : HP} {a1 : Int32} {a3 : Int32} (c0 : ¬ (a1.toInt < (-1000000000))) (c1 : ¬ (1000000000 < a3.toInt)) (c2 : ¬ (a3.toInt < a1.toInt)) : en_C l E M_X12_in 0 0 0 [.long (a1.toInt64), .long (Int64.ofInt (-1000000000)), .long (Int64.ofInt 1000000000)] h (pR (some (.int (Int32.ofInt 1))) h) := by
  refine en_mk m_X12_in rfl hl (Nat.le_of_ble_eq_true rfl) ?_
  refine x_lload_n (M := M_X12_in) dX12_in_0 rfl ?_
  refine x_lload_n (M := M_X12_in) dX12_in_1 rfl ?_
  refine x_lcmp (M := M_X12_in) dX12_in_2 ?_
  refine x_if_lt (M := M_X12_in) (tgt := 17) dX12_in_3 (by decide) (fun q => absurd ((bc_lt (i_i2l rfl) (by decide +kernel)).mp q) (by omega : ¬ (a1.toInt < (-1000000000)))) (fun _ => ?_)
  refine x_lload_n (M := M_X12_in) dX12_in_6 rfl ?_
  refine x_lload (M := M_X12_in) dX12_in_7 rfl ?_
  refine x_lcmp (M := M_X12_in) dX12_in_9 ?_
  refine x_if_gt (M := M_X12_in) (tgt := 17) dX12_in_10 (by decide) (fun q => absurd ((bc_gt (i_i2l rfl) (by decide +kernel)).mp q) (by omega : ¬ (1000000000 < a1.toInt))) (fun _ => ?_)
  refine x_iconst (M := M_X12_in) dX12_in_13 ?_
  refine x_goto (M := M_X12_in) (tgt := 18) dX12_in_14 (by decide) ?_
  exact x_zret (M := M_X12_in) dX12_in_18 rfl (by decide) ⟨rfl, rfl⟩ (Nat.le_of_ble_eq_true rfl) (Nat.le_of_ble_eq_true rfl)
set_option maxRecDepth 10000 in
theorem q6253 {l : Launch} {E : EE} (hl : l.stackTraces = false) {h : HP} {a1 : Int32} {a3 : Int32} (c0 : ¬ (a1.toInt < (-1000000000))) (c1 : ¬ (1000000000 < a3.toInt)) (c2 : ¬ (a3.toInt < a1.toInt)) : en_C l E M_X12_isFar 1 0 0 [.long (a1.toInt64)] h (pR (some (.int (Int32.ofInt 1))) h) := by
  refine en_mk m_X12_isFar rfl hl (Nat.le_of_ble_eq_true rfl) ?_
  refine x_lload_n (M := M_X12_isFar) dX12_isFar_0 rfl ?_
  refine x_ldc2 (M := M_X12_isFar) dX12_isFar_1 t_3136 ?_
  refine x_ldc2 (M := M_X12_isFar) dX12_isFar_4 t_2937 ?_
  refine x_norm (M := M_X12_isFar) (st' := [.long (Int64.ofInt 1000000000), .long (Int64.ofInt (-1000000000)), .long (a1.toInt64)]) rfl (vj_cons (by decide +kernel : (1000000000 : Int64) = (Int64.ofInt 1000000000)) (vj_cons (by decide +kernel : (-1000000000 : Int64) = (Int64.ofInt (-1000000000))) rfl)) rfl rfl rfl ?_
  refine x_callSR (M := M_X12_isFar) (M' := M_X12_in) rfl rfl dX12_isFar_7 m_X12_in t_2818 t_2819 (q6252 hl c0 c1 c2) rfl rfl (Nat.le_of_ble_eq_true rfl) (Nat.le_of_ble_eq_true rfl) (Nat.le_of_ble_eq_true rfl) (Nat.le_of_ble_eq_true rfl) ?_
  exact x_zret (M := M_X12_isFar) dX12_isFar_10 rfl (by decide) ⟨rfl, rfl⟩ (Nat.le_of_ble_eq_true rfl) (Nat.le_of_ble_eq_true rfl)
set_option maxRecDepth 10000 in
theorem q6266 {l : Launch} {E : EE} (hl : l.stackTraces = false) {h : HP} {a0 : Int32} {a1 : Int32} {a2 : Int32} {a3 : Int32} {a4 : Int32} {dg : Int32} (c0 : ¬ (a0.toInt < 0)) (c1 : ¬ (2 < a0.toInt)) (c2 : ¬ (a1.toInt < (-1000000000))) (c3 : ¬ (a2.toInt < (-1000000000))) (c4 : ¬ (1000000000 < a3.toInt)) (c5 : ¬ (1000000000 < a4.toInt)) (c6 : ¬ (a3.toInt < a1.toInt)) (c7 : a4.toInt < a2.toInt) (c8 : 1000000000 < a2.toInt) (o6258 : ob h 277 = some (.inr (15, (RB dg)))) : en_C l E M_X12_find 2 0 0 [.ref 277, .int a0, .int a1, .int a2, .int a3, .int a4] h (pF (some (.int (Int32.ofInt 0))) [277] h (fun h' => ob h' 277 = some (.inr (15, ((RB dg).set 0 (.int (Int32.ofInt 1))))) ∧ True)) := by
  refine en_mk m_X12_find rfl hl (Nat.le_of_ble_eq_true rfl) ?_
  refine x_aload_n (M := M_X12_find) dX12_find_0 rfl ?_
  refine x_iconst (M := M_X12_find) dX12_find_1 ?_
  refine y_put (M := M_X12_find) (ci := 15) (C := RX12) (T := TX12) (N := 135) (ty := tyX12) cl15 dX12_find_2 o6258 0 (by decide) t_2391 (Or.inl rfl) (Nat.le_of_ble_eq_true rfl) rfl (fun h6259 w6260 f6261 => ?_)
  refine x_iload_n (M := M_X12_find) dX12_find_5 rfl ?_
  refine x_i2l (M := M_X12_find) dX12_find_6 ?_
  refine x_lconst (M := M_X12_find) dX12_find_7 ?_
  refine x_ldc2 (M := M_X12_find) dX12_find_8 t_3091 ?_
  refine x_norm (M := M_X12_find) (st' := [.long (Int64.ofInt 2), .long (Int64.ofInt 0), .long (a0.toInt64)]) rfl (vj_cons (by decide +kernel : (2 : Int64) = (Int64.ofInt 2)) (vj_cons (by decide +kernel : (Int64.ofNat ((0 : Fin 2) : Nat)) = (Int64.ofInt 0)) rfl)) rfl rfl rfl ?_
  refine x_callSR (M := M_X12_find) (M' := M_X12_in) rfl rfl dX12_find_11 m_X12_in t_2818 t_2819 (q5833 hl c0 c1) rfl rfl (Nat.le_of_ble_eq_true rfl) (Nat.le_of_ble_eq_true rfl) (Nat.le_of_ble_eq_true rfl) (Nat.le_of_ble_eq_true rfl) ?_
  refine x_if_eq (M := M_X12_find) (tgt := 67) dX12_find_14 (by decide) (fun q => absurd q (by decide +kernel)) (fun _ => ?_)
  refine x_iload_n (M := M_X12_find) dX12_find_17 rfl ?_
  refine x_i2l (M := M_X12_find) dX12_find_18 ?_
  refine x_callSR (M := M_X12_find) (M' := M_X12_isFar) rfl rfl dX12_find_19 m_X12_isFar t_3133 t_3134 (q6253 hl c2 c4 c6) rfl rfl (Nat.le_of_ble_eq_true rfl) (Nat.le_of_ble_eq_true rfl) (Nat.le_of_ble_eq_true rfl) (Nat.le_of_ble_eq_true rfl) ?_
  refine x_if_eq (M := M_X12_find) (tgt := 67) dX12_find_22 (by decide) (fun q => absurd q (by decide +kernel)) (fun _ => ?_)
  refine x_iload_n (M := M_X12_find) dX12_find_25 rfl ?_
  refine x_i2l (M := M_X12_find) dX12_find_26 ?_
  refine x_callSR (M := M_X12_find) (M' := M_X12_isFar) rfl rfl dX12_find_27 m_X12_isFar t_3133 t_3134 (q5951 hl c3 c8) rfl rfl (Nat.le_of_ble_eq_true rfl) (Nat.le_of_ble_eq_true rfl) (Nat.le_of_ble_eq_true rfl) (Nat.le_of_ble_eq_true rfl) ?_
  refine x_if_eq (M := M_X12_find) (tgt := 67) dX12_find_30 (by decide) (fun _ => ?_) (fun q => absurd q (by decide +kernel))
  refine x_iconst (M := M_X12_find) dX12_find_67 ?_
  refine x_istore (M := M_X12_find) dX12_find_68 (Nat.le_of_ble_eq_true rfl) rfl ?_
  refine x_aload_n (M := M_X12_find) dX12_find_70 rfl ?_
  refine x_iload (M := M_X12_find) dX12_find_71 rfl ?_
  refine x_if_ne (M := M_X12_find) (tgt := 80) dX12_find_73 (by decide) (fun q => absurd q (by decide +kernel)) (fun _ => ?_)
  refine x_iconst (M := M_X12_find) dX12_find_76 ?_
  refine x_goto (M := M_X12_find) (tgt := 81) dX12_find_77 (by decide) ?_
  refine x_iconst (M := M_X12_find) dX12_find_81 ?_
  refine y_callVR (M := M_X12_find) (M' := M_X12_fails) rfl rfl dX12_find_82 m_X12_fails t_2805 t_2807 s_157 (q22 hl w6260) rfl rfl w6260 rfl (Nat.le_of_ble_eq_true rfl) (Nat.le_of_ble_eq_true rfl) (Nat.le_of_ble_eq_true rfl) (Nat.le_of_ble_eq_true rfl) (fun h6262 f6263 w6264 => ?_)
  obtain ⟨o6265, -⟩ := w6264
  refine x_if_eq (M := M_X12_find) (tgt := 90) dX12_find_85 (by decide) (fun q => absurd q (by decide +kernel)) (fun _ => ?_)
  refine x_iconst (M := M_X12_find) dX12_find_88 ?_
  exact x_iret (M := M_X12_find) dX12_find_89 rfl ⟨rfl, (fr_tr f6263 (by decide) (fr_tr f6261 (by decide) fr_rf)), ⟨o6265, trivial⟩⟩ (Nat.le_of_ble_eq_true rfl) (Nat.le_of_ble_eq_true rfl)
set_option maxRecDepth 10000 in
theorem lc23_17 {l : Launch} {E : EE} (hl : l.stackTraces = false) (nm : String) {xs : Nat → Int32} (hx : E.2.2.2.2 0 = some (7, xs)) {h : HP} {a0 : Int32} {a1 : Int32} {a2 : Int32} {a3 : Int32} {a4 : Int32} {dg : Int32} (e2 : xs 2 = a0) (e3 : xs 3 = a1) (e4 : xs 4 = a2) (e5 : xs 5 = a3) (e6 : xs 6 = a4) (c0 : ¬ (a0.toInt < 0)) (c1 : ¬ (2 < a0.toInt)) (c2 : ¬ (a1.toInt < (-1000000000))) (c3 : ¬ (a2.toInt < (-1000000000))) (c4 : ¬ (1000000000 < a3.toInt)) (c5 : ¬ (1000000000 < a4.toInt)) (c6 : ¬ (a3.toInt < a1.toInt)) (c7 : a4.toInt < a2.toInt) (c8 : 1000000000 < a2.toInt) (o6254 : ob h 32 = some (.inr (14, [.ref 33, .ref 162, .ref 166, .int (0 : Int32), .int (0 : Int32), .int (0 : Int32), .ref 167, .ref 170, .ref 173, .ref 177, .ref 193, .ref 208, .ref 222, .ref 238, .ref 252, .ref 274, .ref 275, .ref 276, .int (0 : Int32)]))) (o6267 : ob h 277 = some (.inr (15, (RB dg)))) : XX l E (M_law nm) 1312 342628 8074320 (fun o _ => o = .inl (some (.int 1))) 1697 [some (.ref 0), some (.ref 32), some (.ref 277), some (.ref 359), some (.int (Int32.ofInt 1)), none, none, none] [] h 328 2463747 := by
  refine x_aload_n (M := (M_law nm)) dL_law_1697 rfl ?_
  refine x_aload_n (M := (M_law nm)) dL_law_1698 rfl ?_
  refine x_iload (M := (M_law nm)) dL_law_1699 rfl ?_
  refine x_iconst (M := (M_law nm)) dL_law_1701 ?_
  refine x_iadd (M := (M_law nm)) dL_law_1702 ?_
  refine x_sald (M := (M_law nm)) dL_law_1703 (by decide) hx (vp_inD (by decide +kernel)) ?_
  refine x_top (M := (M_law nm)) (y := a0) ((congrArg xs (by decide +kernel : ((Int32.ofInt 1) + (Int32.ofInt 1)).toNatClampNeg = 2)).trans e2) ?_
  refine x_aload_n (M := (M_law nm)) dL_law_1704 rfl ?_
  refine x_iload (M := (M_law nm)) dL_law_1705 rfl ?_
  refine x_iconst (M := (M_law nm)) dL_law_1707 ?_
  refine x_iadd (M := (M_law nm)) dL_law_1708 ?_
  refine x_sald (M := (M_law nm)) dL_law_1709 (by decide) hx (vp_inD (by decide +kernel)) ?_
  refine x_top (M := (M_law nm)) (y := a1) ((congrArg xs (by decide +kernel : ((Int32.ofInt 1) + (Int32.ofInt 2)).toNatClampNeg = 3)).trans e3) ?_
  refine x_aload_n (M := (M_law nm)) dL_law_1710 rfl ?_
  refine x_iload (M := (M_law nm)) dL_law_1711 rfl ?_
  refine x_iconst (M := (M_law nm)) dL_law_1713 ?_
  refine x_iadd (M := (M_law nm)) dL_law_1714 ?_
  refine x_sald (M := (M_law nm)) dL_law_1715 (by decide) hx (vp_inD (by decide +kernel)) ?_
  refine x_top (M := (M_law nm)) (y := a2) ((congrArg xs (by decide +kernel : ((Int32.ofInt 1) + (Int32.ofInt 3)).toNatClampNeg = 4)).trans e4) ?_
  refine x_aload_n (M := (M_law nm)) dL_law_1716 rfl ?_
  refine x_iload (M := (M_law nm)) dL_law_1717 rfl ?_
  refine x_iconst (M := (M_law nm)) dL_law_1719 ?_
  refine x_iadd (M := (M_law nm)) dL_law_1720 ?_
  refine x_sald (M := (M_law nm)) dL_law_1721 (by decide) hx (vp_inD (by decide +kernel)) ?_
  refine x_top (M := (M_law nm)) (y := a3) ((congrArg xs (by decide +kernel : ((Int32.ofInt 1) + (Int32.ofInt 4)).toNatClampNeg = 5)).trans e5) ?_
  refine x_aload_n (M := (M_law nm)) dL_law_1722 rfl ?_
  refine x_iload (M := (M_law nm)) dL_law_1723 rfl ?_
  refine x_iconst (M := (M_law nm)) dL_law_1725 ?_
  refine x_iadd (M := (M_law nm)) dL_law_1726 ?_
  refine x_sald (M := (M_law nm)) dL_law_1727 (by decide) hx (vp_inD (by decide +kernel)) ?_
  refine x_top (M := (M_law nm)) (y := a4) ((congrArg xs (by decide +kernel : ((Int32.ofInt 1) + (Int32.ofInt 5)).toNatClampNeg = 6)).trans e6) ?_
  refine x_aload_n (M := (M_law nm)) dL_law_1728 rfl ?_
  refine y_callSW (M := (M_law nm)) (M' := M_L_find) rfl rfl dL_law_1729 m_L_find t_2242 t_2243 (q6243 hl c0 c1 c2 c3 c4 c5 c6 c7 o6254) rfl rfl (Nat.le_of_ble_eq_true rfl) (Nat.le_of_ble_eq_true rfl) (Nat.le_of_ble_eq_true rfl) (Nat.le_of_ble_eq_true rfl) (fun h6255 f6256 w6257 => ?_)
  refine x_istore (M := (M_law nm)) dL_law_1732 (Nat.le_of_ble_eq_true rfl) rfl ?_
  refine x_aload_n (M := (M_law nm)) dL_law_1734 rfl ?_
  refine x_aload_n (M := (M_law nm)) dL_law_1735 rfl ?_
  refine x_iload (M := (M_law nm)) dL_law_1736 rfl ?_
  refine x_iconst (M := (M_law nm)) dL_law_1738 ?_
  refine x_iadd (M := (M_law nm)) dL_law_1739 ?_
  refine x_sald (M := (M_law nm)) dL_law_1740 (by decide) hx (vp_inD (by decide +kernel)) ?_
  refine x_top (M := (M_law nm)) (y := a0) ((congrArg xs (by decide +kernel : ((Int32.ofInt 1) + (Int32.ofInt 1)).toNatClampNeg = 2)).trans e2) ?_
  refine x_aload_n (M := (M_law nm)) dL_law_1741 rfl ?_
  refine x_iload (M := (M_law nm)) dL_law_1742 rfl ?_
  refine x_iconst (M := (M_law nm)) dL_law_1744 ?_
  refine x_iadd (M := (M_law nm)) dL_law_1745 ?_
  refine x_sald (M := (M_law nm)) dL_law_1746 (by decide) hx (vp_inD (by decide +kernel)) ?_
  refine x_top (M := (M_law nm)) (y := a1) ((congrArg xs (by decide +kernel : ((Int32.ofInt 1) + (Int32.ofInt 2)).toNatClampNeg = 3)).trans e3) ?_
  refine x_aload_n (M := (M_law nm)) dL_law_1747 rfl ?_
  refine x_iload (M := (M_law nm)) dL_law_1748 rfl ?_
  refine x_iconst (M := (M_law nm)) dL_law_1750 ?_
  refine x_iadd (M := (M_law nm)) dL_law_1751 ?_
  refine x_sald (M := (M_law nm)) dL_law_1752 (by decide) hx (vp_inD (by decide +kernel)) ?_
  refine x_top (M := (M_law nm)) (y := a2) ((congrArg xs (by decide +kernel : ((Int32.ofInt 1) + (Int32.ofInt 3)).toNatClampNeg = 4)).trans e4) ?_
  refine x_aload_n (M := (M_law nm)) dL_law_1753 rfl ?_
  refine x_iload (M := (M_law nm)) dL_law_1754 rfl ?_
  refine x_iconst (M := (M_law nm)) dL_law_1756 ?_
  refine x_iadd (M := (M_law nm)) dL_law_1757 ?_
  refine x_sald (M := (M_law nm)) dL_law_1758 (by decide) hx (vp_inD (by decide +kernel)) ?_
  refine x_top (M := (M_law nm)) (y := a3) ((congrArg xs (by decide +kernel : ((Int32.ofInt 1) + (Int32.ofInt 4)).toNatClampNeg = 5)).trans e5) ?_
  refine x_aload_n (M := (M_law nm)) dL_law_1759 rfl ?_
  refine x_iload (M := (M_law nm)) dL_law_1760 rfl ?_
  refine x_iconst (M := (M_law nm)) dL_law_1762 ?_
  refine x_iadd (M := (M_law nm)) dL_law_1763 ?_
  refine x_sald (M := (M_law nm)) dL_law_1764 (by decide) hx (vp_inD (by decide +kernel)) ?_
  refine x_top (M := (M_law nm)) (y := a4) ((congrArg xs (by decide +kernel : ((Int32.ofInt 1) + (Int32.ofInt 5)).toNatClampNeg = 6)).trans e6) ?_
  have o6268 := (f6256 277 _ (by decide) o6267)
  refine y_callVR (M := (M_law nm)) (M' := M_X12_find) rfl rfl dL_law_1765 m_X12_find t_3129 t_3130 t_3131 (q6266 hl c0 c1 c2 c3 c4 c5 c6 c7 c8 o6268) rfl rfl o6268 rfl (Nat.le_of_ble_eq_true rfl) (Nat.le_of_ble_eq_true rfl) (Nat.le_of_ble_eq_true rfl) (Nat.le_of_ble_eq_true rfl) (fun h6269 f6270 w6271 => ?_)
  obtain ⟨o6272, -⟩ := w6271
  refine x_istore (M := (M_law nm)) dL_law_1768 (Nat.le_of_ble_eq_true rfl) rfl ?_
  refine x_aload_n (M := (M_law nm)) dL_law_1770 rfl ?_
  refine x_callVR (M := (M_law nm)) (M' := M_X12_thrown) rfl rfl dL_law_1771 m_X12_thrown t_2797 t_2798 t_2799 (q35 hl o6272) rfl rfl o6272 rfl (Nat.le_of_ble_eq_true rfl) (Nat.le_of_ble_eq_true rfl) (Nat.le_of_ble_eq_true rfl) (Nat.le_of_ble_eq_true rfl) ?_
  refine x_iload (M := (M_law nm)) dL_law_1774 rfl ?_
  refine x_icmp_eq (M := (M_law nm)) (tgt := 1781) dL_law_1776 (by decide) (fun _ => ?_) (fun q => absurd q (by decide +kernel))
  refine x_iload (M := (M_law nm)) dL_law_1781 rfl ?_
  refine x_if_ne (M := (M_law nm)) (tgt := 1798) dL_law_1783 (by decide) (fun _ => ?_) (fun q => absurd q (by decide +kernel))
  refine x_goto (M := (M_law nm)) (tgt := 2449) dL_law_1798 (by decide) ?_
  refine x_iinc (M := (M_law nm)) dL_law_2449 rfl (Nat.le_of_ble_eq_true rfl) rfl ?_
  refine x_lvs (M := (M_law nm)) (lv' := [some (.ref 0), some (.ref 32), some (.ref 277), some (.ref 359), some (.int (Int32.ofInt 7)), some (.int (Int32.ofInt 1)), some (.int (Int32.ofInt 0)), none]) (by rw [(by decide +kernel : (Int32.ofInt 1) + Int32.ofInt 6 = (Int32.ofInt 7))] <;> rfl) ?_
  refine x_goto (M := (M_law nm)) (tgt := 33) dL_law_2452 (by decide) ?_
  refine x_iload (M := (M_law nm)) dL_law_33 rfl ?_
  refine x_aload_n (M := (M_law nm)) dL_law_35 rfl ?_
  refine x_slen (M := (M_law nm)) dL_law_36 (by decide) hx ?_
  refine x_bipush (M := (M_law nm)) dL_law_37 ?_
  refine x_isub (M := (M_law nm)) dL_law_39 ?_
  refine x_icmp_gt (M := (M_law nm)) (tgt := 2455) dL_law_40 (by decide) (fun _ => ?_) (fun q => absurd q (by decide +kernel))
  refine x_iconst (M := (M_law nm)) dL_law_2455 ?_
  exact x_zret (M := (M_law nm)) dL_law_2456 rfl (by decide) rfl (Nat.le_of_ble_eq_true rfl) (Nat.le_of_ble_eq_true rfl)
set_option maxRecDepth 10000 in
theorem q6281 {l : Launch} {E : EE} (hl : l.stackTraces = false) {h : HP} {a1 : Int32} {a3 : Int32} (c0 : ¬ (a1.toInt < (-1000000000))) (c1 : ¬ (1000000000 < a3.toInt)) (c2 : ¬ (a3.toInt < a1.toInt)) : en_C l E M_X12_in 0 0 0 [.long (a3.toInt64), .long (Int64.ofInt (-1000000000)), .long (Int64.ofInt 1000000000)] h (pR (some (.int (Int32.ofInt 1))) h) := by
  refine en_mk m_X12_in rfl hl (Nat.le_of_ble_eq_true rfl) ?_
  refine x_lload_n (M := M_X12_in) dX12_in_0 rfl ?_
  refine x_lload_n (M := M_X12_in) dX12_in_1 rfl ?_
  refine x_lcmp (M := M_X12_in) dX12_in_2 ?_
  refine x_if_lt (M := M_X12_in) (tgt := 17) dX12_in_3 (by decide) (fun q => absurd ((bc_lt (i_i2l rfl) (by decide +kernel)).mp q) (by omega : ¬ (a3.toInt < (-1000000000)))) (fun _ => ?_)
  refine x_lload_n (M := M_X12_in) dX12_in_6 rfl ?_
  refine x_lload (M := M_X12_in) dX12_in_7 rfl ?_
  refine x_lcmp (M := M_X12_in) dX12_in_9 ?_
  refine x_if_gt (M := M_X12_in) (tgt := 17) dX12_in_10 (by decide) (fun q => absurd ((bc_gt (i_i2l rfl) (by decide +kernel)).mp q) (by omega : ¬ (1000000000 < a3.toInt))) (fun _ => ?_)
  refine x_iconst (M := M_X12_in) dX12_in_13 ?_
  refine x_goto (M := M_X12_in) (tgt := 18) dX12_in_14 (by decide) ?_
  exact x_zret (M := M_X12_in) dX12_in_18 rfl (by decide) ⟨rfl, rfl⟩ (Nat.le_of_ble_eq_true rfl) (Nat.le_of_ble_eq_true rfl)
set_option maxRecDepth 10000 in
theorem q6282 {l : Launch} {E : EE} (hl : l.stackTraces = false) {h : HP} {a1 : Int32} {a3 : Int32} (c0 : ¬ (a1.toInt < (-1000000000))) (c1 : ¬ (1000000000 < a3.toInt)) (c2 : ¬ (a3.toInt < a1.toInt)) : en_C l E M_X12_isFar 1 0 0 [.long (a3.toInt64)] h (pR (some (.int (Int32.ofInt 1))) h) := by
  refine en_mk m_X12_isFar rfl hl (Nat.le_of_ble_eq_true rfl) ?_
  refine x_lload_n (M := M_X12_isFar) dX12_isFar_0 rfl ?_
  refine x_ldc2 (M := M_X12_isFar) dX12_isFar_1 t_3136 ?_
  refine x_ldc2 (M := M_X12_isFar) dX12_isFar_4 t_2937 ?_
  refine x_norm (M := M_X12_isFar) (st' := [.long (Int64.ofInt 1000000000), .long (Int64.ofInt (-1000000000)), .long (a3.toInt64)]) rfl (vj_cons (by decide +kernel : (1000000000 : Int64) = (Int64.ofInt 1000000000)) (vj_cons (by decide +kernel : (-1000000000 : Int64) = (Int64.ofInt (-1000000000))) rfl)) rfl rfl rfl ?_
  refine x_callSR (M := M_X12_isFar) (M' := M_X12_in) rfl rfl dX12_isFar_7 m_X12_in t_2818 t_2819 (q6281 hl c0 c1 c2) rfl rfl (Nat.le_of_ble_eq_true rfl) (Nat.le_of_ble_eq_true rfl) (Nat.le_of_ble_eq_true rfl) (Nat.le_of_ble_eq_true rfl) ?_
  exact x_zret (M := M_X12_isFar) dX12_isFar_10 rfl (by decide) ⟨rfl, rfl⟩ (Nat.le_of_ble_eq_true rfl) (Nat.le_of_ble_eq_true rfl)
set_option maxRecDepth 10000 in
theorem q6295 {l : Launch} {E : EE} (hl : l.stackTraces = false) {h : HP} {a0 : Int32} {a1 : Int32} {a2 : Int32} {a3 : Int32} {a4 : Int32} {dg : Int32} (c0 : ¬ (a0.toInt < 0)) (c1 : ¬ (2 < a0.toInt)) (c2 : ¬ (a1.toInt < (-1000000000))) (c3 : ¬ (a2.toInt < (-1000000000))) (c4 : ¬ (1000000000 < a3.toInt)) (c5 : ¬ (1000000000 < a4.toInt)) (c6 : ¬ (a3.toInt < a1.toInt)) (c7 : a4.toInt < a2.toInt) (c8 : ¬ (1000000000 < a2.toInt)) (c9 : a4.toInt < (-1000000000)) (o6287 : ob h 277 = some (.inr (15, (RB dg)))) : en_C l E M_X12_find 2 0 0 [.ref 277, .int a0, .int a1, .int a2, .int a3, .int a4] h (pF (some (.int (Int32.ofInt 0))) [277] h (fun h' => ob h' 277 = some (.inr (15, ((RB dg).set 0 (.int (Int32.ofInt 1))))) ∧ True)) := by
  refine en_mk m_X12_find rfl hl (Nat.le_of_ble_eq_true rfl) ?_
  refine x_aload_n (M := M_X12_find) dX12_find_0 rfl ?_
  refine x_iconst (M := M_X12_find) dX12_find_1 ?_
  refine y_put (M := M_X12_find) (ci := 15) (C := RX12) (T := TX12) (N := 135) (ty := tyX12) cl15 dX12_find_2 o6287 0 (by decide) t_2391 (Or.inl rfl) (Nat.le_of_ble_eq_true rfl) rfl (fun h6288 w6289 f6290 => ?_)
  refine x_iload_n (M := M_X12_find) dX12_find_5 rfl ?_
  refine x_i2l (M := M_X12_find) dX12_find_6 ?_
  refine x_lconst (M := M_X12_find) dX12_find_7 ?_
  refine x_ldc2 (M := M_X12_find) dX12_find_8 t_3091 ?_
  refine x_norm (M := M_X12_find) (st' := [.long (Int64.ofInt 2), .long (Int64.ofInt 0), .long (a0.toInt64)]) rfl (vj_cons (by decide +kernel : (2 : Int64) = (Int64.ofInt 2)) (vj_cons (by decide +kernel : (Int64.ofNat ((0 : Fin 2) : Nat)) = (Int64.ofInt 0)) rfl)) rfl rfl rfl ?_
  refine x_callSR (M := M_X12_find) (M' := M_X12_in) rfl rfl dX12_find_11 m_X12_in t_2818 t_2819 (q5833 hl c0 c1) rfl rfl (Nat.le_of_ble_eq_true rfl) (Nat.le_of_ble_eq_true rfl) (Nat.le_of_ble_eq_true rfl) (Nat.le_of_ble_eq_true rfl) ?_
  refine x_if_eq (M := M_X12_find) (tgt := 67) dX12_find_14 (by decide) (fun q => absurd q (by decide +kernel)) (fun _ => ?_)
  refine x_iload_n (M := M_X12_find) dX12_find_17 rfl ?_
  refine x_i2l (M := M_X12_find) dX12_find_18 ?_
  refine x_callSR (M := M_X12_find) (M' := M_X12_isFar) rfl rfl dX12_find_19 m_X12_isFar t_3133 t_3134 (q6253 hl c2 c4 c6) rfl rfl (Nat.le_of_ble_eq_true rfl) (Nat.le_of_ble_eq_true rfl) (Nat.le_of_ble_eq_true rfl) (Nat.le_of_ble_eq_true rfl) ?_
  refine x_if_eq (M := M_X12_find) (tgt := 67) dX12_find_22 (by decide) (fun q => absurd q (by decide +kernel)) (fun _ => ?_)
  refine x_iload_n (M := M_X12_find) dX12_find_25 rfl ?_
  refine x_i2l (M := M_X12_find) dX12_find_26 ?_
  refine x_callSR (M := M_X12_find) (M' := M_X12_isFar) rfl rfl dX12_find_27 m_X12_isFar t_3133 t_3134 (q5972 hl c3 c8) rfl rfl (Nat.le_of_ble_eq_true rfl) (Nat.le_of_ble_eq_true rfl) (Nat.le_of_ble_eq_true rfl) (Nat.le_of_ble_eq_true rfl) ?_
  refine x_if_eq (M := M_X12_find) (tgt := 67) dX12_find_30 (by decide) (fun q => absurd q (by decide +kernel)) (fun _ => ?_)
  refine x_iload (M := M_X12_find) dX12_find_33 rfl ?_
  refine x_i2l (M := M_X12_find) dX12_find_35 ?_
  refine x_callSR (M := M_X12_find) (M' := M_X12_isFar) rfl rfl dX12_find_36 m_X12_isFar t_3133 t_3134 (q6282 hl c2 c4 c6) rfl rfl (Nat.le_of_ble_eq_true rfl) (Nat.le_of_ble_eq_true rfl) (Nat.le_of_ble_eq_true rfl) (Nat.le_of_ble_eq_true rfl) ?_
  refine x_if_eq (M := M_X12_find) (tgt := 67) dX12_find_39 (by decide) (fun q => absurd q (by decide +kernel)) (fun _ => ?_)
  refine x_iload (M := M_X12_find) dX12_find_42 rfl ?_
  refine x_i2l (M := M_X12_find) dX12_find_44 ?_
  refine x_callSR (M := M_X12_find) (M' := M_X12_isFar) rfl rfl dX12_find_45 m_X12_isFar t_3133 t_3134 (q6204 hl c5 c9) rfl rfl (Nat.le_of_ble_eq_true rfl) (Nat.le_of_ble_eq_true rfl) (Nat.le_of_ble_eq_true rfl) (Nat.le_of_ble_eq_true rfl) ?_
  refine x_if_eq (M := M_X12_find) (tgt := 67) dX12_find_48 (by decide) (fun _ => ?_) (fun q => absurd q (by decide +kernel))
  refine x_iconst (M := M_X12_find) dX12_find_67 ?_
  refine x_istore (M := M_X12_find) dX12_find_68 (Nat.le_of_ble_eq_true rfl) rfl ?_
  refine x_aload_n (M := M_X12_find) dX12_find_70 rfl ?_
  refine x_iload (M := M_X12_find) dX12_find_71 rfl ?_
  refine x_if_ne (M := M_X12_find) (tgt := 80) dX12_find_73 (by decide) (fun q => absurd q (by decide +kernel)) (fun _ => ?_)
  refine x_iconst (M := M_X12_find) dX12_find_76 ?_
  refine x_goto (M := M_X12_find) (tgt := 81) dX12_find_77 (by decide) ?_
  refine x_iconst (M := M_X12_find) dX12_find_81 ?_
  refine y_callVR (M := M_X12_find) (M' := M_X12_fails) rfl rfl dX12_find_82 m_X12_fails t_2805 t_2807 s_157 (q22 hl w6289) rfl rfl w6289 rfl (Nat.le_of_ble_eq_true rfl) (Nat.le_of_ble_eq_true rfl) (Nat.le_of_ble_eq_true rfl) (Nat.le_of_ble_eq_true rfl) (fun h6291 f6292 w6293 => ?_)
  obtain ⟨o6294, -⟩ := w6293
  refine x_if_eq (M := M_X12_find) (tgt := 90) dX12_find_85 (by decide) (fun q => absurd q (by decide +kernel)) (fun _ => ?_)
  refine x_iconst (M := M_X12_find) dX12_find_88 ?_
  exact x_iret (M := M_X12_find) dX12_find_89 rfl ⟨rfl, (fr_tr f6292 (by decide) (fr_tr f6290 (by decide) fr_rf)), ⟨o6294, trivial⟩⟩ (Nat.le_of_ble_eq_true rfl) (Nat.le_of_ble_eq_true rfl)
set_option maxRecDepth 10000 in
theorem lc23_18 {l : Launch} {E : EE} (hl : l.stackTraces = false) (nm : String) {xs : Nat → Int32} (hx : E.2.2.2.2 0 = some (7, xs)) {h : HP} {a0 : Int32} {a1 : Int32} {a2 : Int32} {a3 : Int32} {a4 : Int32} {dg : Int32} (e2 : xs 2 = a0) (e3 : xs 3 = a1) (e4 : xs 4 = a2) (e5 : xs 5 = a3) (e6 : xs 6 = a4) (c0 : ¬ (a0.toInt < 0)) (c1 : ¬ (2 < a0.toInt)) (c2 : ¬ (a1.toInt < (-1000000000))) (c3 : ¬ (a2.toInt < (-1000000000))) (c4 : ¬ (1000000000 < a3.toInt)) (c5 : ¬ (1000000000 < a4.toInt)) (c6 : ¬ (a3.toInt < a1.toInt)) (c7 : a4.toInt < a2.toInt) (c8 : ¬ (1000000000 < a2.toInt)) (c9 : a4.toInt < (-1000000000)) (o6283 : ob h 32 = some (.inr (14, [.ref 33, .ref 162, .ref 166, .int (0 : Int32), .int (0 : Int32), .int (0 : Int32), .ref 167, .ref 170, .ref 173, .ref 177, .ref 193, .ref 208, .ref 222, .ref 238, .ref 252, .ref 274, .ref 275, .ref 276, .int (0 : Int32)]))) (o6296 : ob h 277 = some (.inr (15, (RB dg)))) : XX l E (M_law nm) 1312 342628 8074320 (fun o _ => o = .inl (some (.int 1))) 1697 [some (.ref 0), some (.ref 32), some (.ref 277), some (.ref 359), some (.int (Int32.ofInt 1)), none, none, none] [] h 328 2463747 := by
  refine x_aload_n (M := (M_law nm)) dL_law_1697 rfl ?_
  refine x_aload_n (M := (M_law nm)) dL_law_1698 rfl ?_
  refine x_iload (M := (M_law nm)) dL_law_1699 rfl ?_
  refine x_iconst (M := (M_law nm)) dL_law_1701 ?_
  refine x_iadd (M := (M_law nm)) dL_law_1702 ?_
  refine x_sald (M := (M_law nm)) dL_law_1703 (by decide) hx (vp_inD (by decide +kernel)) ?_
  refine x_top (M := (M_law nm)) (y := a0) ((congrArg xs (by decide +kernel : ((Int32.ofInt 1) + (Int32.ofInt 1)).toNatClampNeg = 2)).trans e2) ?_
  refine x_aload_n (M := (M_law nm)) dL_law_1704 rfl ?_
  refine x_iload (M := (M_law nm)) dL_law_1705 rfl ?_
  refine x_iconst (M := (M_law nm)) dL_law_1707 ?_
  refine x_iadd (M := (M_law nm)) dL_law_1708 ?_
  refine x_sald (M := (M_law nm)) dL_law_1709 (by decide) hx (vp_inD (by decide +kernel)) ?_
  refine x_top (M := (M_law nm)) (y := a1) ((congrArg xs (by decide +kernel : ((Int32.ofInt 1) + (Int32.ofInt 2)).toNatClampNeg = 3)).trans e3) ?_
  refine x_aload_n (M := (M_law nm)) dL_law_1710 rfl ?_
  refine x_iload (M := (M_law nm)) dL_law_1711 rfl ?_
  refine x_iconst (M := (M_law nm)) dL_law_1713 ?_
  refine x_iadd (M := (M_law nm)) dL_law_1714 ?_
  refine x_sald (M := (M_law nm)) dL_law_1715 (by decide) hx (vp_inD (by decide +kernel)) ?_
  refine x_top (M := (M_law nm)) (y := a2) ((congrArg xs (by decide +kernel : ((Int32.ofInt 1) + (Int32.ofInt 3)).toNatClampNeg = 4)).trans e4) ?_
  refine x_aload_n (M := (M_law nm)) dL_law_1716 rfl ?_
  refine x_iload (M := (M_law nm)) dL_law_1717 rfl ?_
  refine x_iconst (M := (M_law nm)) dL_law_1719 ?_
  refine x_iadd (M := (M_law nm)) dL_law_1720 ?_
  refine x_sald (M := (M_law nm)) dL_law_1721 (by decide) hx (vp_inD (by decide +kernel)) ?_
  refine x_top (M := (M_law nm)) (y := a3) ((congrArg xs (by decide +kernel : ((Int32.ofInt 1) + (Int32.ofInt 4)).toNatClampNeg = 5)).trans e5) ?_
  refine x_aload_n (M := (M_law nm)) dL_law_1722 rfl ?_
  refine x_iload (M := (M_law nm)) dL_law_1723 rfl ?_
  refine x_iconst (M := (M_law nm)) dL_law_1725 ?_
  refine x_iadd (M := (M_law nm)) dL_law_1726 ?_
  refine x_sald (M := (M_law nm)) dL_law_1727 (by decide) hx (vp_inD (by decide +kernel)) ?_
  refine x_top (M := (M_law nm)) (y := a4) ((congrArg xs (by decide +kernel : ((Int32.ofInt 1) + (Int32.ofInt 5)).toNatClampNeg = 6)).trans e6) ?_
  refine x_aload_n (M := (M_law nm)) dL_law_1728 rfl ?_
  refine y_callSW (M := (M_law nm)) (M' := M_L_find) rfl rfl dL_law_1729 m_L_find t_2242 t_2243 (q6243 hl c0 c1 c2 c3 c4 c5 c6 c7 o6283) rfl rfl (Nat.le_of_ble_eq_true rfl) (Nat.le_of_ble_eq_true rfl) (Nat.le_of_ble_eq_true rfl) (Nat.le_of_ble_eq_true rfl) (fun h6284 f6285 w6286 => ?_)
  refine x_istore (M := (M_law nm)) dL_law_1732 (Nat.le_of_ble_eq_true rfl) rfl ?_
  refine x_aload_n (M := (M_law nm)) dL_law_1734 rfl ?_
  refine x_aload_n (M := (M_law nm)) dL_law_1735 rfl ?_
  refine x_iload (M := (M_law nm)) dL_law_1736 rfl ?_
  refine x_iconst (M := (M_law nm)) dL_law_1738 ?_
  refine x_iadd (M := (M_law nm)) dL_law_1739 ?_
  refine x_sald (M := (M_law nm)) dL_law_1740 (by decide) hx (vp_inD (by decide +kernel)) ?_
  refine x_top (M := (M_law nm)) (y := a0) ((congrArg xs (by decide +kernel : ((Int32.ofInt 1) + (Int32.ofInt 1)).toNatClampNeg = 2)).trans e2) ?_
  refine x_aload_n (M := (M_law nm)) dL_law_1741 rfl ?_
  refine x_iload (M := (M_law nm)) dL_law_1742 rfl ?_
  refine x_iconst (M := (M_law nm)) dL_law_1744 ?_
  refine x_iadd (M := (M_law nm)) dL_law_1745 ?_
  refine x_sald (M := (M_law nm)) dL_law_1746 (by decide) hx (vp_inD (by decide +kernel)) ?_
  refine x_top (M := (M_law nm)) (y := a1) ((congrArg xs (by decide +kernel : ((Int32.ofInt 1) + (Int32.ofInt 2)).toNatClampNeg = 3)).trans e3) ?_
  refine x_aload_n (M := (M_law nm)) dL_law_1747 rfl ?_
  refine x_iload (M := (M_law nm)) dL_law_1748 rfl ?_
  refine x_iconst (M := (M_law nm)) dL_law_1750 ?_
  refine x_iadd (M := (M_law nm)) dL_law_1751 ?_
  refine x_sald (M := (M_law nm)) dL_law_1752 (by decide) hx (vp_inD (by decide +kernel)) ?_
  refine x_top (M := (M_law nm)) (y := a2) ((congrArg xs (by decide +kernel : ((Int32.ofInt 1) + (Int32.ofInt 3)).toNatClampNeg = 4)).trans e4) ?_
  refine x_aload_n (M := (M_law nm)) dL_law_1753 rfl ?_
  refine x_iload (M := (M_law nm)) dL_law_1754 rfl ?_
  refine x_iconst (M := (M_law nm)) dL_law_1756 ?_
  refine x_iadd (M := (M_law nm)) dL_law_1757 ?_
  refine x_sald (M := (M_law nm)) dL_law_1758 (by decide) hx (vp_inD (by decide +kernel)) ?_
  refine x_top (M := (M_law nm)) (y := a3) ((congrArg xs (by decide +kernel : ((Int32.ofInt 1) + (Int32.ofInt 4)).toNatClampNeg = 5)).trans e5) ?_
  refine x_aload_n (M := (M_law nm)) dL_law_1759 rfl ?_
  refine x_iload (M := (M_law nm)) dL_law_1760 rfl ?_
  refine x_iconst (M := (M_law nm)) dL_law_1762 ?_
  refine x_iadd (M := (M_law nm)) dL_law_1763 ?_
  refine x_sald (M := (M_law nm)) dL_law_1764 (by decide) hx (vp_inD (by decide +kernel)) ?_
  refine x_top (M := (M_law nm)) (y := a4) ((congrArg xs (by decide +kernel : ((Int32.ofInt 1) + (Int32.ofInt 5)).toNatClampNeg = 6)).trans e6) ?_
  have o6297 := (f6285 277 _ (by decide) o6296)
  refine y_callVR (M := (M_law nm)) (M' := M_X12_find) rfl rfl dL_law_1765 m_X12_find t_3129 t_3130 t_3131 (q6295 hl c0 c1 c2 c3 c4 c5 c6 c7 c8 c9 o6297) rfl rfl o6297 rfl (Nat.le_of_ble_eq_true rfl) (Nat.le_of_ble_eq_true rfl) (Nat.le_of_ble_eq_true rfl) (Nat.le_of_ble_eq_true rfl) (fun h6298 f6299 w6300 => ?_)
  obtain ⟨o6301, -⟩ := w6300
  refine x_istore (M := (M_law nm)) dL_law_1768 (Nat.le_of_ble_eq_true rfl) rfl ?_
  refine x_aload_n (M := (M_law nm)) dL_law_1770 rfl ?_
  refine x_callVR (M := (M_law nm)) (M' := M_X12_thrown) rfl rfl dL_law_1771 m_X12_thrown t_2797 t_2798 t_2799 (q35 hl o6301) rfl rfl o6301 rfl (Nat.le_of_ble_eq_true rfl) (Nat.le_of_ble_eq_true rfl) (Nat.le_of_ble_eq_true rfl) (Nat.le_of_ble_eq_true rfl) ?_
  refine x_iload (M := (M_law nm)) dL_law_1774 rfl ?_
  refine x_icmp_eq (M := (M_law nm)) (tgt := 1781) dL_law_1776 (by decide) (fun _ => ?_) (fun q => absurd q (by decide +kernel))
  refine x_iload (M := (M_law nm)) dL_law_1781 rfl ?_
  refine x_if_ne (M := (M_law nm)) (tgt := 1798) dL_law_1783 (by decide) (fun _ => ?_) (fun q => absurd q (by decide +kernel))
  refine x_goto (M := (M_law nm)) (tgt := 2449) dL_law_1798 (by decide) ?_
  refine x_iinc (M := (M_law nm)) dL_law_2449 rfl (Nat.le_of_ble_eq_true rfl) rfl ?_
  refine x_lvs (M := (M_law nm)) (lv' := [some (.ref 0), some (.ref 32), some (.ref 277), some (.ref 359), some (.int (Int32.ofInt 7)), some (.int (Int32.ofInt 1)), some (.int (Int32.ofInt 0)), none]) (by rw [(by decide +kernel : (Int32.ofInt 1) + Int32.ofInt 6 = (Int32.ofInt 7))] <;> rfl) ?_
  refine x_goto (M := (M_law nm)) (tgt := 33) dL_law_2452 (by decide) ?_
  refine x_iload (M := (M_law nm)) dL_law_33 rfl ?_
  refine x_aload_n (M := (M_law nm)) dL_law_35 rfl ?_
  refine x_slen (M := (M_law nm)) dL_law_36 (by decide) hx ?_
  refine x_bipush (M := (M_law nm)) dL_law_37 ?_
  refine x_isub (M := (M_law nm)) dL_law_39 ?_
  refine x_icmp_gt (M := (M_law nm)) (tgt := 2455) dL_law_40 (by decide) (fun _ => ?_) (fun q => absurd q (by decide +kernel))
  refine x_iconst (M := (M_law nm)) dL_law_2455 ?_
  exact x_zret (M := (M_law nm)) dL_law_2456 rfl (by decide) rfl (Nat.le_of_ble_eq_true rfl) (Nat.le_of_ble_eq_true rfl)
set_option maxRecDepth 10000 in
theorem q6314 {l : Launch} {E : EE} (hl : l.stackTraces = false) {h : HP} {a0 : Int32} {a1 : Int32} {a2 : Int32} {a3 : Int32} {a4 : Int32} {dg : Int32} (c0 : ¬ (a0.toInt < 0)) (c1 : ¬ (2 < a0.toInt)) (c2 : ¬ (a1.toInt < (-1000000000))) (c3 : ¬ (a2.toInt < (-1000000000))) (c4 : ¬ (1000000000 < a3.toInt)) (c5 : ¬ (1000000000 < a4.toInt)) (c6 : ¬ (a3.toInt < a1.toInt)) (c7 : a4.toInt < a2.toInt) (c8 : ¬ (1000000000 < a2.toInt)) (c9 : ¬ (a4.toInt < (-1000000000))) (o6306 : ob h 277 = some (.inr (15, (RB dg)))) : en_C l E M_X12_find 2 0 0 [.ref 277, .int a0, .int a1, .int a2, .int a3, .int a4] h (pF (some (.int (Int32.ofInt 0))) [277] h (fun h' => ob h' 277 = some (.inr (15, ((RB dg).set 0 (.int (Int32.ofInt 1))))) ∧ True)) := by
  refine en_mk m_X12_find rfl hl (Nat.le_of_ble_eq_true rfl) ?_
  refine x_aload_n (M := M_X12_find) dX12_find_0 rfl ?_
  refine x_iconst (M := M_X12_find) dX12_find_1 ?_
  refine y_put (M := M_X12_find) (ci := 15) (C := RX12) (T := TX12) (N := 135) (ty := tyX12) cl15 dX12_find_2 o6306 0 (by decide) t_2391 (Or.inl rfl) (Nat.le_of_ble_eq_true rfl) rfl (fun h6307 w6308 f6309 => ?_)
  refine x_iload_n (M := M_X12_find) dX12_find_5 rfl ?_
  refine x_i2l (M := M_X12_find) dX12_find_6 ?_
  refine x_lconst (M := M_X12_find) dX12_find_7 ?_
  refine x_ldc2 (M := M_X12_find) dX12_find_8 t_3091 ?_
  refine x_norm (M := M_X12_find) (st' := [.long (Int64.ofInt 2), .long (Int64.ofInt 0), .long (a0.toInt64)]) rfl (vj_cons (by decide +kernel : (2 : Int64) = (Int64.ofInt 2)) (vj_cons (by decide +kernel : (Int64.ofNat ((0 : Fin 2) : Nat)) = (Int64.ofInt 0)) rfl)) rfl rfl rfl ?_
  refine x_callSR (M := M_X12_find) (M' := M_X12_in) rfl rfl dX12_find_11 m_X12_in t_2818 t_2819 (q5833 hl c0 c1) rfl rfl (Nat.le_of_ble_eq_true rfl) (Nat.le_of_ble_eq_true rfl) (Nat.le_of_ble_eq_true rfl) (Nat.le_of_ble_eq_true rfl) ?_
  refine x_if_eq (M := M_X12_find) (tgt := 67) dX12_find_14 (by decide) (fun q => absurd q (by decide +kernel)) (fun _ => ?_)
  refine x_iload_n (M := M_X12_find) dX12_find_17 rfl ?_
  refine x_i2l (M := M_X12_find) dX12_find_18 ?_
  refine x_callSR (M := M_X12_find) (M' := M_X12_isFar) rfl rfl dX12_find_19 m_X12_isFar t_3133 t_3134 (q6253 hl c2 c4 c6) rfl rfl (Nat.le_of_ble_eq_true rfl) (Nat.le_of_ble_eq_true rfl) (Nat.le_of_ble_eq_true rfl) (Nat.le_of_ble_eq_true rfl) ?_
  refine x_if_eq (M := M_X12_find) (tgt := 67) dX12_find_22 (by decide) (fun q => absurd q (by decide +kernel)) (fun _ => ?_)
  refine x_iload_n (M := M_X12_find) dX12_find_25 rfl ?_
  refine x_i2l (M := M_X12_find) dX12_find_26 ?_
  refine x_callSR (M := M_X12_find) (M' := M_X12_isFar) rfl rfl dX12_find_27 m_X12_isFar t_3133 t_3134 (q5972 hl c3 c8) rfl rfl (Nat.le_of_ble_eq_true rfl) (Nat.le_of_ble_eq_true rfl) (Nat.le_of_ble_eq_true rfl) (Nat.le_of_ble_eq_true rfl) ?_
  refine x_if_eq (M := M_X12_find) (tgt := 67) dX12_find_30 (by decide) (fun q => absurd q (by decide +kernel)) (fun _ => ?_)
  refine x_iload (M := M_X12_find) dX12_find_33 rfl ?_
  refine x_i2l (M := M_X12_find) dX12_find_35 ?_
  refine x_callSR (M := M_X12_find) (M' := M_X12_isFar) rfl rfl dX12_find_36 m_X12_isFar t_3133 t_3134 (q6282 hl c2 c4 c6) rfl rfl (Nat.le_of_ble_eq_true rfl) (Nat.le_of_ble_eq_true rfl) (Nat.le_of_ble_eq_true rfl) (Nat.le_of_ble_eq_true rfl) ?_
  refine x_if_eq (M := M_X12_find) (tgt := 67) dX12_find_39 (by decide) (fun q => absurd q (by decide +kernel)) (fun _ => ?_)
  refine x_iload (M := M_X12_find) dX12_find_42 rfl ?_
  refine x_i2l (M := M_X12_find) dX12_find_44 ?_
  refine x_callSR (M := M_X12_find) (M' := M_X12_isFar) rfl rfl dX12_find_45 m_X12_isFar t_3133 t_3134 (q6225 hl c5 c9) rfl rfl (Nat.le_of_ble_eq_true rfl) (Nat.le_of_ble_eq_true rfl) (Nat.le_of_ble_eq_true rfl) (Nat.le_of_ble_eq_true rfl) ?_
  refine x_if_eq (M := M_X12_find) (tgt := 67) dX12_find_48 (by decide) (fun q => absurd q (by decide +kernel)) (fun _ => ?_)
  refine x_iload_n (M := M_X12_find) dX12_find_51 rfl ?_
  refine x_iload (M := M_X12_find) dX12_find_52 rfl ?_
  refine x_icmp_gt (M := M_X12_find) (tgt := 67) dX12_find_54 (by decide) (fun q => absurd ((bi_lt rfl rfl).mp q) (by omega : ¬ (a3.toInt < a1.toInt))) (fun _ => ?_)
  refine x_iload_n (M := M_X12_find) dX12_find_57 rfl ?_
  refine x_iload (M := M_X12_find) dX12_find_58 rfl ?_
  refine x_icmp_gt (M := M_X12_find) (tgt := 67) dX12_find_60 (by decide) (fun _ => ?_) (fun q => absurd ((bi_lt rfl rfl).mpr (by omega : (a4.toInt < a2.toInt : Prop))) q)
  refine x_iconst (M := M_X12_find) dX12_find_67 ?_
  refine x_istore (M := M_X12_find) dX12_find_68 (Nat.le_of_ble_eq_true rfl) rfl ?_
  refine x_aload_n (M := M_X12_find) dX12_find_70 rfl ?_
  refine x_iload (M := M_X12_find) dX12_find_71 rfl ?_
  refine x_if_ne (M := M_X12_find) (tgt := 80) dX12_find_73 (by decide) (fun q => absurd q (by decide +kernel)) (fun _ => ?_)
  refine x_iconst (M := M_X12_find) dX12_find_76 ?_
  refine x_goto (M := M_X12_find) (tgt := 81) dX12_find_77 (by decide) ?_
  refine x_iconst (M := M_X12_find) dX12_find_81 ?_
  refine y_callVR (M := M_X12_find) (M' := M_X12_fails) rfl rfl dX12_find_82 m_X12_fails t_2805 t_2807 s_157 (q22 hl w6308) rfl rfl w6308 rfl (Nat.le_of_ble_eq_true rfl) (Nat.le_of_ble_eq_true rfl) (Nat.le_of_ble_eq_true rfl) (Nat.le_of_ble_eq_true rfl) (fun h6310 f6311 w6312 => ?_)
  obtain ⟨o6313, -⟩ := w6312
  refine x_if_eq (M := M_X12_find) (tgt := 90) dX12_find_85 (by decide) (fun q => absurd q (by decide +kernel)) (fun _ => ?_)
  refine x_iconst (M := M_X12_find) dX12_find_88 ?_
  exact x_iret (M := M_X12_find) dX12_find_89 rfl ⟨rfl, (fr_tr f6311 (by decide) (fr_tr f6309 (by decide) fr_rf)), ⟨o6313, trivial⟩⟩ (Nat.le_of_ble_eq_true rfl) (Nat.le_of_ble_eq_true rfl)
set_option maxRecDepth 10000 in
theorem lc23_19 {l : Launch} {E : EE} (hl : l.stackTraces = false) (nm : String) {xs : Nat → Int32} (hx : E.2.2.2.2 0 = some (7, xs)) {h : HP} {a0 : Int32} {a1 : Int32} {a2 : Int32} {a3 : Int32} {a4 : Int32} {dg : Int32} (e2 : xs 2 = a0) (e3 : xs 3 = a1) (e4 : xs 4 = a2) (e5 : xs 5 = a3) (e6 : xs 6 = a4) (c0 : ¬ (a0.toInt < 0)) (c1 : ¬ (2 < a0.toInt)) (c2 : ¬ (a1.toInt < (-1000000000))) (c3 : ¬ (a2.toInt < (-1000000000))) (c4 : ¬ (1000000000 < a3.toInt)) (c5 : ¬ (1000000000 < a4.toInt)) (c6 : ¬ (a3.toInt < a1.toInt)) (c7 : a4.toInt < a2.toInt) (c8 : ¬ (1000000000 < a2.toInt)) (c9 : ¬ (a4.toInt < (-1000000000))) (o6302 : ob h 32 = some (.inr (14, [.ref 33, .ref 162, .ref 166, .int (0 : Int32), .int (0 : Int32), .int (0 : Int32), .ref 167, .ref 170, .ref 173, .ref 177, .ref 193, .ref 208, .ref 222, .ref 238, .ref 252, .ref 274, .ref 275, .ref 276, .int (0 : Int32)]))) (o6315 : ob h 277 = some (.inr (15, (RB dg)))) : XX l E (M_law nm) 1312 342628 8074320 (fun o _ => o = .inl (some (.int 1))) 1697 [some (.ref 0), some (.ref 32), some (.ref 277), some (.ref 359), some (.int (Int32.ofInt 1)), none, none, none] [] h 328 2463747 := by
  refine x_aload_n (M := (M_law nm)) dL_law_1697 rfl ?_
  refine x_aload_n (M := (M_law nm)) dL_law_1698 rfl ?_
  refine x_iload (M := (M_law nm)) dL_law_1699 rfl ?_
  refine x_iconst (M := (M_law nm)) dL_law_1701 ?_
  refine x_iadd (M := (M_law nm)) dL_law_1702 ?_
  refine x_sald (M := (M_law nm)) dL_law_1703 (by decide) hx (vp_inD (by decide +kernel)) ?_
  refine x_top (M := (M_law nm)) (y := a0) ((congrArg xs (by decide +kernel : ((Int32.ofInt 1) + (Int32.ofInt 1)).toNatClampNeg = 2)).trans e2) ?_
  refine x_aload_n (M := (M_law nm)) dL_law_1704 rfl ?_
  refine x_iload (M := (M_law nm)) dL_law_1705 rfl ?_
  refine x_iconst (M := (M_law nm)) dL_law_1707 ?_
  refine x_iadd (M := (M_law nm)) dL_law_1708 ?_
  refine x_sald (M := (M_law nm)) dL_law_1709 (by decide) hx (vp_inD (by decide +kernel)) ?_
  refine x_top (M := (M_law nm)) (y := a1) ((congrArg xs (by decide +kernel : ((Int32.ofInt 1) + (Int32.ofInt 2)).toNatClampNeg = 3)).trans e3) ?_
  refine x_aload_n (M := (M_law nm)) dL_law_1710 rfl ?_
  refine x_iload (M := (M_law nm)) dL_law_1711 rfl ?_
  refine x_iconst (M := (M_law nm)) dL_law_1713 ?_
  refine x_iadd (M := (M_law nm)) dL_law_1714 ?_
  refine x_sald (M := (M_law nm)) dL_law_1715 (by decide) hx (vp_inD (by decide +kernel)) ?_
  refine x_top (M := (M_law nm)) (y := a2) ((congrArg xs (by decide +kernel : ((Int32.ofInt 1) + (Int32.ofInt 3)).toNatClampNeg = 4)).trans e4) ?_
  refine x_aload_n (M := (M_law nm)) dL_law_1716 rfl ?_
  refine x_iload (M := (M_law nm)) dL_law_1717 rfl ?_
  refine x_iconst (M := (M_law nm)) dL_law_1719 ?_
  refine x_iadd (M := (M_law nm)) dL_law_1720 ?_
  refine x_sald (M := (M_law nm)) dL_law_1721 (by decide) hx (vp_inD (by decide +kernel)) ?_
  refine x_top (M := (M_law nm)) (y := a3) ((congrArg xs (by decide +kernel : ((Int32.ofInt 1) + (Int32.ofInt 4)).toNatClampNeg = 5)).trans e5) ?_
  refine x_aload_n (M := (M_law nm)) dL_law_1722 rfl ?_
  refine x_iload (M := (M_law nm)) dL_law_1723 rfl ?_
  refine x_iconst (M := (M_law nm)) dL_law_1725 ?_
  refine x_iadd (M := (M_law nm)) dL_law_1726 ?_
  refine x_sald (M := (M_law nm)) dL_law_1727 (by decide) hx (vp_inD (by decide +kernel)) ?_
  refine x_top (M := (M_law nm)) (y := a4) ((congrArg xs (by decide +kernel : ((Int32.ofInt 1) + (Int32.ofInt 5)).toNatClampNeg = 6)).trans e6) ?_
  refine x_aload_n (M := (M_law nm)) dL_law_1728 rfl ?_
  refine y_callSW (M := (M_law nm)) (M' := M_L_find) rfl rfl dL_law_1729 m_L_find t_2242 t_2243 (q6243 hl c0 c1 c2 c3 c4 c5 c6 c7 o6302) rfl rfl (Nat.le_of_ble_eq_true rfl) (Nat.le_of_ble_eq_true rfl) (Nat.le_of_ble_eq_true rfl) (Nat.le_of_ble_eq_true rfl) (fun h6303 f6304 w6305 => ?_)
  refine x_istore (M := (M_law nm)) dL_law_1732 (Nat.le_of_ble_eq_true rfl) rfl ?_
  refine x_aload_n (M := (M_law nm)) dL_law_1734 rfl ?_
  refine x_aload_n (M := (M_law nm)) dL_law_1735 rfl ?_
  refine x_iload (M := (M_law nm)) dL_law_1736 rfl ?_
  refine x_iconst (M := (M_law nm)) dL_law_1738 ?_
  refine x_iadd (M := (M_law nm)) dL_law_1739 ?_
  refine x_sald (M := (M_law nm)) dL_law_1740 (by decide) hx (vp_inD (by decide +kernel)) ?_
  refine x_top (M := (M_law nm)) (y := a0) ((congrArg xs (by decide +kernel : ((Int32.ofInt 1) + (Int32.ofInt 1)).toNatClampNeg = 2)).trans e2) ?_
  refine x_aload_n (M := (M_law nm)) dL_law_1741 rfl ?_
  refine x_iload (M := (M_law nm)) dL_law_1742 rfl ?_
  refine x_iconst (M := (M_law nm)) dL_law_1744 ?_
  refine x_iadd (M := (M_law nm)) dL_law_1745 ?_
  refine x_sald (M := (M_law nm)) dL_law_1746 (by decide) hx (vp_inD (by decide +kernel)) ?_
  refine x_top (M := (M_law nm)) (y := a1) ((congrArg xs (by decide +kernel : ((Int32.ofInt 1) + (Int32.ofInt 2)).toNatClampNeg = 3)).trans e3) ?_
  refine x_aload_n (M := (M_law nm)) dL_law_1747 rfl ?_
  refine x_iload (M := (M_law nm)) dL_law_1748 rfl ?_
  refine x_iconst (M := (M_law nm)) dL_law_1750 ?_
  refine x_iadd (M := (M_law nm)) dL_law_1751 ?_
  refine x_sald (M := (M_law nm)) dL_law_1752 (by decide) hx (vp_inD (by decide +kernel)) ?_
  refine x_top (M := (M_law nm)) (y := a2) ((congrArg xs (by decide +kernel : ((Int32.ofInt 1) + (Int32.ofInt 3)).toNatClampNeg = 4)).trans e4) ?_
  refine x_aload_n (M := (M_law nm)) dL_law_1753 rfl ?_
  refine x_iload (M := (M_law nm)) dL_law_1754 rfl ?_
  refine x_iconst (M := (M_law nm)) dL_law_1756 ?_
  refine x_iadd (M := (M_law nm)) dL_law_1757 ?_
  refine x_sald (M := (M_law nm)) dL_law_1758 (by decide) hx (vp_inD (by decide +kernel)) ?_
  refine x_top (M := (M_law nm)) (y := a3) ((congrArg xs (by decide +kernel : ((Int32.ofInt 1) + (Int32.ofInt 4)).toNatClampNeg = 5)).trans e5) ?_
  refine x_aload_n (M := (M_law nm)) dL_law_1759 rfl ?_
  refine x_iload (M := (M_law nm)) dL_law_1760 rfl ?_
  refine x_iconst (M := (M_law nm)) dL_law_1762 ?_
  refine x_iadd (M := (M_law nm)) dL_law_1763 ?_
  refine x_sald (M := (M_law nm)) dL_law_1764 (by decide) hx (vp_inD (by decide +kernel)) ?_
  refine x_top (M := (M_law nm)) (y := a4) ((congrArg xs (by decide +kernel : ((Int32.ofInt 1) + (Int32.ofInt 5)).toNatClampNeg = 6)).trans e6) ?_
  have o6316 := (f6304 277 _ (by decide) o6315)
  refine y_callVR (M := (M_law nm)) (M' := M_X12_find) rfl rfl dL_law_1765 m_X12_find t_3129 t_3130 t_3131 (q6314 hl c0 c1 c2 c3 c4 c5 c6 c7 c8 c9 o6316) rfl rfl o6316 rfl (Nat.le_of_ble_eq_true rfl) (Nat.le_of_ble_eq_true rfl) (Nat.le_of_ble_eq_true rfl) (Nat.le_of_ble_eq_true rfl) (fun h6317 f6318 w6319 => ?_)
  obtain ⟨o6320, -⟩ := w6319
  refine x_istore (M := (M_law nm)) dL_law_1768 (Nat.le_of_ble_eq_true rfl) rfl ?_
  refine x_aload_n (M := (M_law nm)) dL_law_1770 rfl ?_
  refine x_callVR (M := (M_law nm)) (M' := M_X12_thrown) rfl rfl dL_law_1771 m_X12_thrown t_2797 t_2798 t_2799 (q35 hl o6320) rfl rfl o6320 rfl (Nat.le_of_ble_eq_true rfl) (Nat.le_of_ble_eq_true rfl) (Nat.le_of_ble_eq_true rfl) (Nat.le_of_ble_eq_true rfl) ?_
  refine x_iload (M := (M_law nm)) dL_law_1774 rfl ?_
  refine x_icmp_eq (M := (M_law nm)) (tgt := 1781) dL_law_1776 (by decide) (fun _ => ?_) (fun q => absurd q (by decide +kernel))
  refine x_iload (M := (M_law nm)) dL_law_1781 rfl ?_
  refine x_if_ne (M := (M_law nm)) (tgt := 1798) dL_law_1783 (by decide) (fun _ => ?_) (fun q => absurd q (by decide +kernel))
  refine x_goto (M := (M_law nm)) (tgt := 2449) dL_law_1798 (by decide) ?_
  refine x_iinc (M := (M_law nm)) dL_law_2449 rfl (Nat.le_of_ble_eq_true rfl) rfl ?_
  refine x_lvs (M := (M_law nm)) (lv' := [some (.ref 0), some (.ref 32), some (.ref 277), some (.ref 359), some (.int (Int32.ofInt 7)), some (.int (Int32.ofInt 1)), some (.int (Int32.ofInt 0)), none]) (by rw [(by decide +kernel : (Int32.ofInt 1) + Int32.ofInt 6 = (Int32.ofInt 7))] <;> rfl) ?_
  refine x_goto (M := (M_law nm)) (tgt := 33) dL_law_2452 (by decide) ?_
  refine x_iload (M := (M_law nm)) dL_law_33 rfl ?_
  refine x_aload_n (M := (M_law nm)) dL_law_35 rfl ?_
  refine x_slen (M := (M_law nm)) dL_law_36 (by decide) hx ?_
  refine x_bipush (M := (M_law nm)) dL_law_37 ?_
  refine x_isub (M := (M_law nm)) dL_law_39 ?_
  refine x_icmp_gt (M := (M_law nm)) (tgt := 2455) dL_law_40 (by decide) (fun _ => ?_) (fun q => absurd q (by decide +kernel))
  refine x_iconst (M := (M_law nm)) dL_law_2455 ?_
  exact x_zret (M := (M_law nm)) dL_law_2456 rfl (by decide) rfl (Nat.le_of_ble_eq_true rfl) (Nat.le_of_ble_eq_true rfl)
set_option maxRecDepth 10000 in
theorem q6391 {l : Launch} {E : EE} (hl : l.stackTraces = false) {h : HP} {a0 : Int32} {a1 : Int32} {a2 : Int32} {a3 : Int32} {a4 : Int32} (c0 : ¬ (a0.toInt < 0)) (c1 : ¬ (2 < a0.toInt)) (c2 : ¬ (a1.toInt < (-1000000000))) (c3 : ¬ (a2.toInt < (-1000000000))) (c4 : ¬ (1000000000 < a3.toInt)) (c5 : ¬ (1000000000 < a4.toInt)) (c6 : ¬ (a3.toInt < a1.toInt)) (c7 : ¬ (a4.toInt < a2.toInt)) (o6321 : ob h 32 = some (.inr (14, [.ref 33, .ref 162, .ref 166, .int (0 : Int32), .int (0 : Int32), .int (0 : Int32), .ref 167, .ref 170, .ref 173, .ref 177, .ref 193, .ref 208, .ref 222, .ref 238, .ref 252, .ref 274, .ref 275, .ref 276, .int (0 : Int32)]))) (o6325 : ob h 33 = some (.inl (4, 32, .inr (.inr (.inr (.inr (shf 1 32))))))) (o6327 : ob h 34 = some (.inr (9, [.ref 35, .ref 36, .ref 37, .int (0 : Int32), .int (0 : Int32)]))) (o6329 : ob h 38 = some (.inr (9, [.ref 39, .ref 40, .ref 41, .int (0 : Int32), .int (0 : Int32)]))) (o6331 : ob h 42 = some (.inr (9, [.ref 43, .ref 44, .ref 45, .int (0 : Int32), .int (0 : Int32)]))) (o6333 : ob h 46 = some (.inr (9, [.ref 47, .ref 48, .ref 49, .int (0 : Int32), .int (0 : Int32)]))) (o6335 : ob h 50 = some (.inr (9, [.ref 51, .ref 52, .ref 53, .int (0 : Int32), .int (0 : Int32)]))) (o6337 : ob h 54 = some (.inr (9, [.ref 55, .ref 56, .ref 57, .int (0 : Int32), .int (0 : Int32)]))) (o6339 : ob h 58 = some (.inr (9, [.ref 59, .ref 60, .ref 61, .int (0 : Int32), .int (0 : Int32)]))) (o6341 : ob h 62 = some (.inr (9, [.ref 63, .ref 64, .ref 65, .int (0 : Int32), .int (0 : Int32)]))) (o6343 : ob h 66 = some (.inr (9, [.ref 67, .ref 68, .ref 69, .int (0 : Int32), .int (0 : Int32)]))) (o6345 : ob h 70 = some (.inr (9, [.ref 71, .ref 72, .ref 73, .int (0 : Int32), .int (0 : Int32)]))) (o6347 : ob h 74 = some (.inr (9, [.ref 75, .ref 76, .ref 77, .int (0 : Int32), .int (0 : Int32)]))) (o6349 : ob h 78 = some (.inr (9, [.ref 79, .ref 80, .ref 81, .int (0 : Int32), .int (0 : Int32)]))) (o6351 : ob h 82 = some (.inr (9, [.ref 83, .ref 84, .ref 85, .int (0 : Int32), .int (0 : Int32)]))) (o6353 : ob h 86 = some (.inr (9, [.ref 87, .ref 88, .ref 89, .int (0 : Int32), .int (0 : Int32)]))) (o6355 : ob h 90 = some (.inr (9, [.ref 91, .ref 92, .ref 93, .int (0 : Int32), .int (0 : Int32)]))) (o6357 : ob h 94 = some (.inr (9, [.ref 95, .ref 96, .ref 97, .int (0 : Int32), .int (0 : Int32)]))) (o6359 : ob h 98 = some (.inr (9, [.ref 99, .ref 100, .ref 101, .int (0 : Int32), .int (0 : Int32)]))) (o6361 : ob h 102 = some (.inr (9, [.ref 103, .ref 104, .ref 105, .int (0 : Int32), .int (0 : Int32)]))) (o6363 : ob h 106 = some (.inr (9, [.ref 107, .ref 108, .ref 109, .int (0 : Int32), .int (0 : Int32)]))) (o6365 : ob h 110 = some (.inr (9, [.ref 111, .ref 112, .ref 113, .int (0 : Int32), .int (0 : Int32)]))) (o6367 : ob h 114 = some (.inr (9, [.ref 115, .ref 116, .ref 117, .int (0 : Int32), .int (0 : Int32)]))) (o6369 : ob h 118 = some (.inr (9, [.ref 119, .ref 120, .ref 121, .int (0 : Int32), .int (0 : Int32)]))) (o6371 : ob h 122 = some (.inr (9, [.ref 123, .ref 124, .ref 125, .int (0 : Int32), .int (0 : Int32)]))) (o6373 : ob h 126 = some (.inr (9, [.ref 127, .ref 128, .ref 129, .int (0 : Int32), .int (0 : Int32)]))) (o6375 : ob h 130 = some (.inr (9, [.ref 131, .ref 132, .ref 133, .int (0 : Int32), .int (0 : Int32)]))) (o6377 : ob h 134 = some (.inr (9, [.ref 135, .ref 136, .ref 137, .int (0 : Int32), .int (0 : Int32)]))) (o6379 : ob h 138 = some (.inr (9, [.ref 139, .ref 140, .ref 141, .int (0 : Int32), .int (0 : Int32)]))) (o6381 : ob h 142 = some (.inr (9, [.ref 143, .ref 144, .ref 145, .int (0 : Int32), .int (0 : Int32)]))) (o6383 : ob h 146 = some (.inr (9, [.ref 147, .ref 148, .ref 149, .int (0 : Int32), .int (0 : Int32)]))) (o6385 : ob h 150 = some (.inr (9, [.ref 151, .ref 152, .ref 153, .int (0 : Int32), .int (0 : Int32)]))) (o6387 : ob h 154 = some (.inr (9, [.ref 155, .ref 156, .ref 157, .int (0 : Int32), .int (0 : Int32)]))) (o6389 : ob h 158 = some (.inr (9, [.ref 159, .ref 160, .ref 161, .int (0 : Int32), .int (0 : Int32)]))) : en_C l E M_X11_find 1 0 0 [.ref 32, .int a0, .int a1, .int a2, .int a3, .int a4] h (pF (some (.int (Int32.ofInt 0))) [32] h (fun h' => ob h' 32 = some (.inr (14, [.ref 33, .ref 162, .ref 166, .int (0 : Int32), .int (0 : Int32), .int (0 : Int32), .ref 167, .ref 170, .ref 173, .ref 177, .ref 193, .ref 208, .ref 222, .ref 238, .ref 252, .ref 274, .ref 275, .ref 276, .int (Int32.ofInt 0)])) ∧ True)) := by
  refine en_mk m_X11_find rfl hl (Nat.le_of_ble_eq_true rfl) ?_
  refine x_iload_n (M := M_X11_find) dX11_find_0 rfl ?_
  refine x_if_lt (M := M_X11_find) (tgt := 51) dX11_find_1 (by decide) (fun q => absurd ((bi_lt rfl (by decide +kernel)).mp q) (by omega : ¬ (a0.toInt < 0))) (fun _ => ?_)
  refine x_iload_n (M := M_X11_find) dX11_find_4 rfl ?_
  refine x_iconst (M := M_X11_find) dX11_find_5 ?_
  refine x_icmp_gt (M := M_X11_find) (tgt := 51) dX11_find_6 (by decide) (fun q => absurd ((bi_lt (by decide +kernel) rfl).mp q) (by omega : ¬ (2 < a0.toInt))) (fun _ => ?_)
  refine x_iload_n (M := M_X11_find) dX11_find_9 rfl ?_
  refine x_ldcw (M := M_X11_find) dX11_find_10 t_2249 ?_
  refine x_icmp_lt (M := M_X11_find) (tgt := 51) dX11_find_13 (by decide) (fun q => absurd ((bi_lt rfl (by decide +kernel)).mp q) (by omega : ¬ (a1.toInt < (-1000000000)))) (fun _ => ?_)
  refine x_iload_n (M := M_X11_find) dX11_find_16 rfl ?_
  refine x_ldcw (M := M_X11_find) dX11_find_17 t_2249 ?_
  refine x_icmp_lt (M := M_X11_find) (tgt := 51) dX11_find_20 (by decide) (fun q => absurd ((bi_lt rfl (by decide +kernel)).mp q) (by omega : ¬ (a2.toInt < (-1000000000)))) (fun _ => ?_)
  refine x_iload (M := M_X11_find) dX11_find_23 rfl ?_
  refine x_ldcw (M := M_X11_find) dX11_find_25 t_2191 ?_
  refine x_icmp_gt (M := M_X11_find) (tgt := 51) dX11_find_28 (by decide) (fun q => absurd ((bi_lt (by decide +kernel) rfl).mp q) (by omega : ¬ (1000000000 < a3.toInt))) (fun _ => ?_)
  refine x_iload (M := M_X11_find) dX11_find_31 rfl ?_
  refine x_ldcw (M := M_X11_find) dX11_find_33 t_2191 ?_
  refine x_icmp_gt (M := M_X11_find) (tgt := 51) dX11_find_36 (by decide) (fun q => absurd ((bi_lt (by decide +kernel) rfl).mp q) (by omega : ¬ (1000000000 < a4.toInt))) (fun _ => ?_)
  refine x_iload (M := M_X11_find) dX11_find_39 rfl ?_
  refine x_iload_n (M := M_X11_find) dX11_find_41 rfl ?_
  refine x_icmp_lt (M := M_X11_find) (tgt := 51) dX11_find_42 (by decide) (fun q => absurd ((bi_lt rfl rfl).mp q) (by omega : ¬ (a3.toInt < a1.toInt))) (fun _ => ?_)
  refine x_iload (M := M_X11_find) dX11_find_45 rfl ?_
  refine x_iload_n (M := M_X11_find) dX11_find_47 rfl ?_
  refine x_icmp_ge (M := M_X11_find) (tgt := 59) dX11_find_48 (by decide) (fun _ => ?_) (fun q => absurd ((bi_le rfl rfl).mpr (by omega : (a2.toInt ≤ a4.toInt : Prop))) q)
  refine x_aload_n (M := M_X11_find) dX11_find_59 rfl ?_
  refine x_iconst (M := M_X11_find) dX11_find_60 ?_
  refine y_put (M := M_X11_find) (ci := 14) (C := RX11) (T := TX11) (N := 19) (ty := tyX11) cl14 dX11_find_61 o6321 18 (by decide) t_581 (Or.inl rfl) (Nat.le_of_ble_eq_true rfl) rfl (fun h6322 (w6323 : ob h6322 32 = some (.inr (14, [.ref 33, .ref 162, .ref 166, .int (0 : Int32), .int (0 : Int32), .int (0 : Int32), .ref 167, .ref 170, .ref 173, .ref 177, .ref 193, .ref 208, .ref 222, .ref 238, .ref 252, .ref 274, .ref 275, .ref 276, .int (Int32.ofInt 0)]))) f6324 => ?_)
  refine x_iconst (M := M_X11_find) dX11_find_64 ?_
  refine x_istore (M := M_X11_find) dX11_find_65 (Nat.le_of_ble_eq_true rfl) rfl ?_
  refine x_iload (M := M_X11_find) dX11_find_67 rfl ?_
  refine x_bipush (M := M_X11_find) dX11_find_69 ?_
  refine x_icmp_ge (M := M_X11_find) (tgt := 132) dX11_find_71 (by decide) (fun q => absurd q (by decide +kernel)) (fun _ => ?_)
  refine x_aload_n (M := M_X11_find) dX11_find_74 rfl ?_
  refine x_getf (M := M_X11_find) (ci := 14) (C := RX11) (T := TX11) (N := 19) (ty := tyX11) cl14 dX11_find_75 w6323 0 (by decide) t_563 (v := .ref 33) rfl ?_
  refine x_iload (M := M_X11_find) dX11_find_78 rfl ?_
  have o6326 := (f6324 33 _ (by decide) o6325)
  refine x_aald (M := M_X11_find) (b := 34) dX11_find_80 o6326 (vp_inD (by decide +kernel)) (by decide +kernel) ?_
  refine x_aload_n (M := M_X11_find) dX11_find_81 rfl ?_
  refine x_getf (M := M_X11_find) (ci := 14) (C := RX11) (T := TX11) (N := 19) (ty := tyX11) cl14 dX11_find_82 w6323 15 (by decide) t_578 (v := .ref 274) rfl ?_
  have o6328 := (f6324 34 _ (by decide) o6327)
  refine x_callVR (M := M_X11_find) (M' := M_X6_putBox) rfl rfl dX11_find_85 m_X6_putBox t_2236 t_2237 t_2238 (q5458 hl o6328) rfl rfl o6328 rfl (Nat.le_of_ble_eq_true rfl) (Nat.le_of_ble_eq_true rfl) (Nat.le_of_ble_eq_true rfl) (Nat.le_of_ble_eq_true rfl) ?_
  refine x_if_eq (M := M_X11_find) (tgt := 126) dX11_find_88 (by decide) (fun _ => ?_) (fun q => absurd q (by decide +kernel))
  refine x_iinc (M := M_X11_find) dX11_find_126 rfl (Nat.le_of_ble_eq_true rfl) rfl ?_
  refine x_lvs (M := M_X11_find) (lv' := [some (.ref 32), some (.int a0), some (.int a1), some (.int a2), some (.int a3), some (.int a4), some (.int (Int32.ofInt 1))]) (by rw [(by decide +kernel : (Int32.ofInt 0) + Int32.ofInt 1 = (Int32.ofInt 1))] <;> rfl) ?_
  refine x_goto (M := M_X11_find) (tgt := 67) dX11_find_129 (by decide) ?_
  refine x_iload (M := M_X11_find) dX11_find_67 rfl ?_
  refine x_bipush (M := M_X11_find) dX11_find_69 ?_
  refine x_icmp_ge (M := M_X11_find) (tgt := 132) dX11_find_71 (by decide) (fun q => absurd q (by decide +kernel)) (fun _ => ?_)
  refine x_aload_n (M := M_X11_find) dX11_find_74 rfl ?_
  refine x_getf (M := M_X11_find) (ci := 14) (C := RX11) (T := TX11) (N := 19) (ty := tyX11) cl14 dX11_find_75 w6323 0 (by decide) t_563 (v := .ref 33) rfl ?_
  refine x_iload (M := M_X11_find) dX11_find_78 rfl ?_
  refine x_aald (M := M_X11_find) (b := 38) dX11_find_80 o6326 (vp_inD (by decide +kernel)) (by decide +kernel) ?_
  refine x_aload_n (M := M_X11_find) dX11_find_81 rfl ?_
  refine x_getf (M := M_X11_find) (ci := 14) (C := RX11) (T := TX11) (N := 19) (ty := tyX11) cl14 dX11_find_82 w6323 15 (by decide) t_578 (v := .ref 274) rfl ?_
  have o6330 := (f6324 38 _ (by decide) o6329)
  refine x_callVR (M := M_X11_find) (M' := M_X6_putBox) rfl rfl dX11_find_85 m_X6_putBox t_2236 t_2237 t_2238 (q5461 hl o6330) rfl rfl o6330 rfl (Nat.le_of_ble_eq_true rfl) (Nat.le_of_ble_eq_true rfl) (Nat.le_of_ble_eq_true rfl) (Nat.le_of_ble_eq_true rfl) ?_
  refine x_if_eq (M := M_X11_find) (tgt := 126) dX11_find_88 (by decide) (fun _ => ?_) (fun q => absurd q (by decide +kernel))
  refine x_iinc (M := M_X11_find) dX11_find_126 rfl (Nat.le_of_ble_eq_true rfl) rfl ?_
  refine x_lvs (M := M_X11_find) (lv' := [some (.ref 32), some (.int a0), some (.int a1), some (.int a2), some (.int a3), some (.int a4), some (.int (Int32.ofInt 2))]) (by rw [(by decide +kernel : (Int32.ofInt 1) + Int32.ofInt 1 = (Int32.ofInt 2))] <;> rfl) ?_
  refine x_goto (M := M_X11_find) (tgt := 67) dX11_find_129 (by decide) ?_
  refine x_iload (M := M_X11_find) dX11_find_67 rfl ?_
  refine x_bipush (M := M_X11_find) dX11_find_69 ?_
  refine x_icmp_ge (M := M_X11_find) (tgt := 132) dX11_find_71 (by decide) (fun q => absurd q (by decide +kernel)) (fun _ => ?_)
  refine x_aload_n (M := M_X11_find) dX11_find_74 rfl ?_
  refine x_getf (M := M_X11_find) (ci := 14) (C := RX11) (T := TX11) (N := 19) (ty := tyX11) cl14 dX11_find_75 w6323 0 (by decide) t_563 (v := .ref 33) rfl ?_
  refine x_iload (M := M_X11_find) dX11_find_78 rfl ?_
  refine x_aald (M := M_X11_find) (b := 42) dX11_find_80 o6326 (vp_inD (by decide +kernel)) (by decide +kernel) ?_
  refine x_aload_n (M := M_X11_find) dX11_find_81 rfl ?_
  refine x_getf (M := M_X11_find) (ci := 14) (C := RX11) (T := TX11) (N := 19) (ty := tyX11) cl14 dX11_find_82 w6323 15 (by decide) t_578 (v := .ref 274) rfl ?_
  have o6332 := (f6324 42 _ (by decide) o6331)
  refine x_callVR (M := M_X11_find) (M' := M_X6_putBox) rfl rfl dX11_find_85 m_X6_putBox t_2236 t_2237 t_2238 (q5464 hl o6332) rfl rfl o6332 rfl (Nat.le_of_ble_eq_true rfl) (Nat.le_of_ble_eq_true rfl) (Nat.le_of_ble_eq_true rfl) (Nat.le_of_ble_eq_true rfl) ?_
  refine x_if_eq (M := M_X11_find) (tgt := 126) dX11_find_88 (by decide) (fun _ => ?_) (fun q => absurd q (by decide +kernel))
  refine x_iinc (M := M_X11_find) dX11_find_126 rfl (Nat.le_of_ble_eq_true rfl) rfl ?_
  refine x_lvs (M := M_X11_find) (lv' := [some (.ref 32), some (.int a0), some (.int a1), some (.int a2), some (.int a3), some (.int a4), some (.int (Int32.ofInt 3))]) (by rw [(by decide +kernel : (Int32.ofInt 2) + Int32.ofInt 1 = (Int32.ofInt 3))] <;> rfl) ?_
  refine x_goto (M := M_X11_find) (tgt := 67) dX11_find_129 (by decide) ?_
  refine x_iload (M := M_X11_find) dX11_find_67 rfl ?_
  refine x_bipush (M := M_X11_find) dX11_find_69 ?_
  refine x_icmp_ge (M := M_X11_find) (tgt := 132) dX11_find_71 (by decide) (fun q => absurd q (by decide +kernel)) (fun _ => ?_)
  refine x_aload_n (M := M_X11_find) dX11_find_74 rfl ?_
  refine x_getf (M := M_X11_find) (ci := 14) (C := RX11) (T := TX11) (N := 19) (ty := tyX11) cl14 dX11_find_75 w6323 0 (by decide) t_563 (v := .ref 33) rfl ?_
  refine x_iload (M := M_X11_find) dX11_find_78 rfl ?_
  refine x_aald (M := M_X11_find) (b := 46) dX11_find_80 o6326 (vp_inD (by decide +kernel)) (by decide +kernel) ?_
  refine x_aload_n (M := M_X11_find) dX11_find_81 rfl ?_
  refine x_getf (M := M_X11_find) (ci := 14) (C := RX11) (T := TX11) (N := 19) (ty := tyX11) cl14 dX11_find_82 w6323 15 (by decide) t_578 (v := .ref 274) rfl ?_
  have o6334 := (f6324 46 _ (by decide) o6333)
  refine x_callVR (M := M_X11_find) (M' := M_X6_putBox) rfl rfl dX11_find_85 m_X6_putBox t_2236 t_2237 t_2238 (q5467 hl o6334) rfl rfl o6334 rfl (Nat.le_of_ble_eq_true rfl) (Nat.le_of_ble_eq_true rfl) (Nat.le_of_ble_eq_true rfl) (Nat.le_of_ble_eq_true rfl) ?_
  refine x_if_eq (M := M_X11_find) (tgt := 126) dX11_find_88 (by decide) (fun _ => ?_) (fun q => absurd q (by decide +kernel))
  refine x_iinc (M := M_X11_find) dX11_find_126 rfl (Nat.le_of_ble_eq_true rfl) rfl ?_
  refine x_lvs (M := M_X11_find) (lv' := [some (.ref 32), some (.int a0), some (.int a1), some (.int a2), some (.int a3), some (.int a4), some (.int (Int32.ofInt 4))]) (by rw [(by decide +kernel : (Int32.ofInt 3) + Int32.ofInt 1 = (Int32.ofInt 4))] <;> rfl) ?_
  refine x_goto (M := M_X11_find) (tgt := 67) dX11_find_129 (by decide) ?_
  refine x_iload (M := M_X11_find) dX11_find_67 rfl ?_
  refine x_bipush (M := M_X11_find) dX11_find_69 ?_
  refine x_icmp_ge (M := M_X11_find) (tgt := 132) dX11_find_71 (by decide) (fun q => absurd q (by decide +kernel)) (fun _ => ?_)
  refine x_aload_n (M := M_X11_find) dX11_find_74 rfl ?_
  refine x_getf (M := M_X11_find) (ci := 14) (C := RX11) (T := TX11) (N := 19) (ty := tyX11) cl14 dX11_find_75 w6323 0 (by decide) t_563 (v := .ref 33) rfl ?_
  refine x_iload (M := M_X11_find) dX11_find_78 rfl ?_
  refine x_aald (M := M_X11_find) (b := 50) dX11_find_80 o6326 (vp_inD (by decide +kernel)) (by decide +kernel) ?_
  refine x_aload_n (M := M_X11_find) dX11_find_81 rfl ?_
  refine x_getf (M := M_X11_find) (ci := 14) (C := RX11) (T := TX11) (N := 19) (ty := tyX11) cl14 dX11_find_82 w6323 15 (by decide) t_578 (v := .ref 274) rfl ?_
  have o6336 := (f6324 50 _ (by decide) o6335)
  refine x_callVR (M := M_X11_find) (M' := M_X6_putBox) rfl rfl dX11_find_85 m_X6_putBox t_2236 t_2237 t_2238 (q5470 hl o6336) rfl rfl o6336 rfl (Nat.le_of_ble_eq_true rfl) (Nat.le_of_ble_eq_true rfl) (Nat.le_of_ble_eq_true rfl) (Nat.le_of_ble_eq_true rfl) ?_
  refine x_if_eq (M := M_X11_find) (tgt := 126) dX11_find_88 (by decide) (fun _ => ?_) (fun q => absurd q (by decide +kernel))
  refine x_iinc (M := M_X11_find) dX11_find_126 rfl (Nat.le_of_ble_eq_true rfl) rfl ?_
  refine x_lvs (M := M_X11_find) (lv' := [some (.ref 32), some (.int a0), some (.int a1), some (.int a2), some (.int a3), some (.int a4), some (.int (Int32.ofInt 5))]) (by rw [(by decide +kernel : (Int32.ofInt 4) + Int32.ofInt 1 = (Int32.ofInt 5))] <;> rfl) ?_
  refine x_goto (M := M_X11_find) (tgt := 67) dX11_find_129 (by decide) ?_
  refine x_iload (M := M_X11_find) dX11_find_67 rfl ?_
  refine x_bipush (M := M_X11_find) dX11_find_69 ?_
  refine x_icmp_ge (M := M_X11_find) (tgt := 132) dX11_find_71 (by decide) (fun q => absurd q (by decide +kernel)) (fun _ => ?_)
  refine x_aload_n (M := M_X11_find) dX11_find_74 rfl ?_
  refine x_getf (M := M_X11_find) (ci := 14) (C := RX11) (T := TX11) (N := 19) (ty := tyX11) cl14 dX11_find_75 w6323 0 (by decide) t_563 (v := .ref 33) rfl ?_
  refine x_iload (M := M_X11_find) dX11_find_78 rfl ?_
  refine x_aald (M := M_X11_find) (b := 54) dX11_find_80 o6326 (vp_inD (by decide +kernel)) (by decide +kernel) ?_
  refine x_aload_n (M := M_X11_find) dX11_find_81 rfl ?_
  refine x_getf (M := M_X11_find) (ci := 14) (C := RX11) (T := TX11) (N := 19) (ty := tyX11) cl14 dX11_find_82 w6323 15 (by decide) t_578 (v := .ref 274) rfl ?_
  have o6338 := (f6324 54 _ (by decide) o6337)
  refine x_callVR (M := M_X11_find) (M' := M_X6_putBox) rfl rfl dX11_find_85 m_X6_putBox t_2236 t_2237 t_2238 (q5473 hl o6338) rfl rfl o6338 rfl (Nat.le_of_ble_eq_true rfl) (Nat.le_of_ble_eq_true rfl) (Nat.le_of_ble_eq_true rfl) (Nat.le_of_ble_eq_true rfl) ?_
  refine x_if_eq (M := M_X11_find) (tgt := 126) dX11_find_88 (by decide) (fun _ => ?_) (fun q => absurd q (by decide +kernel))
  refine x_iinc (M := M_X11_find) dX11_find_126 rfl (Nat.le_of_ble_eq_true rfl) rfl ?_
  refine x_lvs (M := M_X11_find) (lv' := [some (.ref 32), some (.int a0), some (.int a1), some (.int a2), some (.int a3), some (.int a4), some (.int (Int32.ofInt 6))]) (by rw [(by decide +kernel : (Int32.ofInt 5) + Int32.ofInt 1 = (Int32.ofInt 6))] <;> rfl) ?_
  refine x_goto (M := M_X11_find) (tgt := 67) dX11_find_129 (by decide) ?_
  refine x_iload (M := M_X11_find) dX11_find_67 rfl ?_
  refine x_bipush (M := M_X11_find) dX11_find_69 ?_
  refine x_icmp_ge (M := M_X11_find) (tgt := 132) dX11_find_71 (by decide) (fun q => absurd q (by decide +kernel)) (fun _ => ?_)
  refine x_aload_n (M := M_X11_find) dX11_find_74 rfl ?_
  refine x_getf (M := M_X11_find) (ci := 14) (C := RX11) (T := TX11) (N := 19) (ty := tyX11) cl14 dX11_find_75 w6323 0 (by decide) t_563 (v := .ref 33) rfl ?_
  refine x_iload (M := M_X11_find) dX11_find_78 rfl ?_
  refine x_aald (M := M_X11_find) (b := 58) dX11_find_80 o6326 (vp_inD (by decide +kernel)) (by decide +kernel) ?_
  refine x_aload_n (M := M_X11_find) dX11_find_81 rfl ?_
  refine x_getf (M := M_X11_find) (ci := 14) (C := RX11) (T := TX11) (N := 19) (ty := tyX11) cl14 dX11_find_82 w6323 15 (by decide) t_578 (v := .ref 274) rfl ?_
  have o6340 := (f6324 58 _ (by decide) o6339)
  refine x_callVR (M := M_X11_find) (M' := M_X6_putBox) rfl rfl dX11_find_85 m_X6_putBox t_2236 t_2237 t_2238 (q5476 hl o6340) rfl rfl o6340 rfl (Nat.le_of_ble_eq_true rfl) (Nat.le_of_ble_eq_true rfl) (Nat.le_of_ble_eq_true rfl) (Nat.le_of_ble_eq_true rfl) ?_
  refine x_if_eq (M := M_X11_find) (tgt := 126) dX11_find_88 (by decide) (fun _ => ?_) (fun q => absurd q (by decide +kernel))
  refine x_iinc (M := M_X11_find) dX11_find_126 rfl (Nat.le_of_ble_eq_true rfl) rfl ?_
  refine x_lvs (M := M_X11_find) (lv' := [some (.ref 32), some (.int a0), some (.int a1), some (.int a2), some (.int a3), some (.int a4), some (.int (Int32.ofInt 7))]) (by rw [(by decide +kernel : (Int32.ofInt 6) + Int32.ofInt 1 = (Int32.ofInt 7))] <;> rfl) ?_
  refine x_goto (M := M_X11_find) (tgt := 67) dX11_find_129 (by decide) ?_
  refine x_iload (M := M_X11_find) dX11_find_67 rfl ?_
  refine x_bipush (M := M_X11_find) dX11_find_69 ?_
  refine x_icmp_ge (M := M_X11_find) (tgt := 132) dX11_find_71 (by decide) (fun q => absurd q (by decide +kernel)) (fun _ => ?_)
  refine x_aload_n (M := M_X11_find) dX11_find_74 rfl ?_
  refine x_getf (M := M_X11_find) (ci := 14) (C := RX11) (T := TX11) (N := 19) (ty := tyX11) cl14 dX11_find_75 w6323 0 (by decide) t_563 (v := .ref 33) rfl ?_
  refine x_iload (M := M_X11_find) dX11_find_78 rfl ?_
  refine x_aald (M := M_X11_find) (b := 62) dX11_find_80 o6326 (vp_inD (by decide +kernel)) (by decide +kernel) ?_
  refine x_aload_n (M := M_X11_find) dX11_find_81 rfl ?_
  refine x_getf (M := M_X11_find) (ci := 14) (C := RX11) (T := TX11) (N := 19) (ty := tyX11) cl14 dX11_find_82 w6323 15 (by decide) t_578 (v := .ref 274) rfl ?_
  have o6342 := (f6324 62 _ (by decide) o6341)
  refine x_callVR (M := M_X11_find) (M' := M_X6_putBox) rfl rfl dX11_find_85 m_X6_putBox t_2236 t_2237 t_2238 (q5479 hl o6342) rfl rfl o6342 rfl (Nat.le_of_ble_eq_true rfl) (Nat.le_of_ble_eq_true rfl) (Nat.le_of_ble_eq_true rfl) (Nat.le_of_ble_eq_true rfl) ?_
  refine x_if_eq (M := M_X11_find) (tgt := 126) dX11_find_88 (by decide) (fun _ => ?_) (fun q => absurd q (by decide +kernel))
  refine x_iinc (M := M_X11_find) dX11_find_126 rfl (Nat.le_of_ble_eq_true rfl) rfl ?_
  refine x_lvs (M := M_X11_find) (lv' := [some (.ref 32), some (.int a0), some (.int a1), some (.int a2), some (.int a3), some (.int a4), some (.int (Int32.ofInt 8))]) (by rw [(by decide +kernel : (Int32.ofInt 7) + Int32.ofInt 1 = (Int32.ofInt 8))] <;> rfl) ?_
  refine x_goto (M := M_X11_find) (tgt := 67) dX11_find_129 (by decide) ?_
  refine x_iload (M := M_X11_find) dX11_find_67 rfl ?_
  refine x_bipush (M := M_X11_find) dX11_find_69 ?_
  refine x_icmp_ge (M := M_X11_find) (tgt := 132) dX11_find_71 (by decide) (fun q => absurd q (by decide +kernel)) (fun _ => ?_)
  refine x_aload_n (M := M_X11_find) dX11_find_74 rfl ?_
  refine x_getf (M := M_X11_find) (ci := 14) (C := RX11) (T := TX11) (N := 19) (ty := tyX11) cl14 dX11_find_75 w6323 0 (by decide) t_563 (v := .ref 33) rfl ?_
  refine x_iload (M := M_X11_find) dX11_find_78 rfl ?_
  refine x_aald (M := M_X11_find) (b := 66) dX11_find_80 o6326 (vp_inD (by decide +kernel)) (by decide +kernel) ?_
  refine x_aload_n (M := M_X11_find) dX11_find_81 rfl ?_
  refine x_getf (M := M_X11_find) (ci := 14) (C := RX11) (T := TX11) (N := 19) (ty := tyX11) cl14 dX11_find_82 w6323 15 (by decide) t_578 (v := .ref 274) rfl ?_
  have o6344 := (f6324 66 _ (by decide) o6343)
  refine x_callVR (M := M_X11_find) (M' := M_X6_putBox) rfl rfl dX11_find_85 m_X6_putBox t_2236 t_2237 t_2238 (q5482 hl o6344) rfl rfl o6344 rfl (Nat.le_of_ble_eq_true rfl) (Nat.le_of_ble_eq_true rfl) (Nat.le_of_ble_eq_true rfl) (Nat.le_of_ble_eq_true rfl) ?_
  refine x_if_eq (M := M_X11_find) (tgt := 126) dX11_find_88 (by decide) (fun _ => ?_) (fun q => absurd q (by decide +kernel))
  refine x_iinc (M := M_X11_find) dX11_find_126 rfl (Nat.le_of_ble_eq_true rfl) rfl ?_
  refine x_lvs (M := M_X11_find) (lv' := [some (.ref 32), some (.int a0), some (.int a1), some (.int a2), some (.int a3), some (.int a4), some (.int (Int32.ofInt 9))]) (by rw [(by decide +kernel : (Int32.ofInt 8) + Int32.ofInt 1 = (Int32.ofInt 9))] <;> rfl) ?_
  refine x_goto (M := M_X11_find) (tgt := 67) dX11_find_129 (by decide) ?_
  refine x_iload (M := M_X11_find) dX11_find_67 rfl ?_
  refine x_bipush (M := M_X11_find) dX11_find_69 ?_
  refine x_icmp_ge (M := M_X11_find) (tgt := 132) dX11_find_71 (by decide) (fun q => absurd q (by decide +kernel)) (fun _ => ?_)
  refine x_aload_n (M := M_X11_find) dX11_find_74 rfl ?_
  refine x_getf (M := M_X11_find) (ci := 14) (C := RX11) (T := TX11) (N := 19) (ty := tyX11) cl14 dX11_find_75 w6323 0 (by decide) t_563 (v := .ref 33) rfl ?_
  refine x_iload (M := M_X11_find) dX11_find_78 rfl ?_
  refine x_aald (M := M_X11_find) (b := 70) dX11_find_80 o6326 (vp_inD (by decide +kernel)) (by decide +kernel) ?_
  refine x_aload_n (M := M_X11_find) dX11_find_81 rfl ?_
  refine x_getf (M := M_X11_find) (ci := 14) (C := RX11) (T := TX11) (N := 19) (ty := tyX11) cl14 dX11_find_82 w6323 15 (by decide) t_578 (v := .ref 274) rfl ?_
  have o6346 := (f6324 70 _ (by decide) o6345)
  refine x_callVR (M := M_X11_find) (M' := M_X6_putBox) rfl rfl dX11_find_85 m_X6_putBox t_2236 t_2237 t_2238 (q5485 hl o6346) rfl rfl o6346 rfl (Nat.le_of_ble_eq_true rfl) (Nat.le_of_ble_eq_true rfl) (Nat.le_of_ble_eq_true rfl) (Nat.le_of_ble_eq_true rfl) ?_
  refine x_if_eq (M := M_X11_find) (tgt := 126) dX11_find_88 (by decide) (fun _ => ?_) (fun q => absurd q (by decide +kernel))
  refine x_iinc (M := M_X11_find) dX11_find_126 rfl (Nat.le_of_ble_eq_true rfl) rfl ?_
  refine x_lvs (M := M_X11_find) (lv' := [some (.ref 32), some (.int a0), some (.int a1), some (.int a2), some (.int a3), some (.int a4), some (.int (Int32.ofInt 10))]) (by rw [(by decide +kernel : (Int32.ofInt 9) + Int32.ofInt 1 = (Int32.ofInt 10))] <;> rfl) ?_
  refine x_goto (M := M_X11_find) (tgt := 67) dX11_find_129 (by decide) ?_
  refine x_iload (M := M_X11_find) dX11_find_67 rfl ?_
  refine x_bipush (M := M_X11_find) dX11_find_69 ?_
  refine x_icmp_ge (M := M_X11_find) (tgt := 132) dX11_find_71 (by decide) (fun q => absurd q (by decide +kernel)) (fun _ => ?_)
  refine x_aload_n (M := M_X11_find) dX11_find_74 rfl ?_
  refine x_getf (M := M_X11_find) (ci := 14) (C := RX11) (T := TX11) (N := 19) (ty := tyX11) cl14 dX11_find_75 w6323 0 (by decide) t_563 (v := .ref 33) rfl ?_
  refine x_iload (M := M_X11_find) dX11_find_78 rfl ?_
  refine x_aald (M := M_X11_find) (b := 74) dX11_find_80 o6326 (vp_inD (by decide +kernel)) (by decide +kernel) ?_
  refine x_aload_n (M := M_X11_find) dX11_find_81 rfl ?_
  refine x_getf (M := M_X11_find) (ci := 14) (C := RX11) (T := TX11) (N := 19) (ty := tyX11) cl14 dX11_find_82 w6323 15 (by decide) t_578 (v := .ref 274) rfl ?_
  have o6348 := (f6324 74 _ (by decide) o6347)
  refine x_callVR (M := M_X11_find) (M' := M_X6_putBox) rfl rfl dX11_find_85 m_X6_putBox t_2236 t_2237 t_2238 (q5488 hl o6348) rfl rfl o6348 rfl (Nat.le_of_ble_eq_true rfl) (Nat.le_of_ble_eq_true rfl) (Nat.le_of_ble_eq_true rfl) (Nat.le_of_ble_eq_true rfl) ?_
  refine x_if_eq (M := M_X11_find) (tgt := 126) dX11_find_88 (by decide) (fun _ => ?_) (fun q => absurd q (by decide +kernel))
  refine x_iinc (M := M_X11_find) dX11_find_126 rfl (Nat.le_of_ble_eq_true rfl) rfl ?_
  refine x_lvs (M := M_X11_find) (lv' := [some (.ref 32), some (.int a0), some (.int a1), some (.int a2), some (.int a3), some (.int a4), some (.int (Int32.ofInt 11))]) (by rw [(by decide +kernel : (Int32.ofInt 10) + Int32.ofInt 1 = (Int32.ofInt 11))] <;> rfl) ?_
  refine x_goto (M := M_X11_find) (tgt := 67) dX11_find_129 (by decide) ?_
  refine x_iload (M := M_X11_find) dX11_find_67 rfl ?_
  refine x_bipush (M := M_X11_find) dX11_find_69 ?_
  refine x_icmp_ge (M := M_X11_find) (tgt := 132) dX11_find_71 (by decide) (fun q => absurd q (by decide +kernel)) (fun _ => ?_)
  refine x_aload_n (M := M_X11_find) dX11_find_74 rfl ?_
  refine x_getf (M := M_X11_find) (ci := 14) (C := RX11) (T := TX11) (N := 19) (ty := tyX11) cl14 dX11_find_75 w6323 0 (by decide) t_563 (v := .ref 33) rfl ?_
  refine x_iload (M := M_X11_find) dX11_find_78 rfl ?_
  refine x_aald (M := M_X11_find) (b := 78) dX11_find_80 o6326 (vp_inD (by decide +kernel)) (by decide +kernel) ?_
  refine x_aload_n (M := M_X11_find) dX11_find_81 rfl ?_
  refine x_getf (M := M_X11_find) (ci := 14) (C := RX11) (T := TX11) (N := 19) (ty := tyX11) cl14 dX11_find_82 w6323 15 (by decide) t_578 (v := .ref 274) rfl ?_
  have o6350 := (f6324 78 _ (by decide) o6349)
  refine x_callVR (M := M_X11_find) (M' := M_X6_putBox) rfl rfl dX11_find_85 m_X6_putBox t_2236 t_2237 t_2238 (q5491 hl o6350) rfl rfl o6350 rfl (Nat.le_of_ble_eq_true rfl) (Nat.le_of_ble_eq_true rfl) (Nat.le_of_ble_eq_true rfl) (Nat.le_of_ble_eq_true rfl) ?_
  refine x_if_eq (M := M_X11_find) (tgt := 126) dX11_find_88 (by decide) (fun _ => ?_) (fun q => absurd q (by decide +kernel))
  refine x_iinc (M := M_X11_find) dX11_find_126 rfl (Nat.le_of_ble_eq_true rfl) rfl ?_
  refine x_lvs (M := M_X11_find) (lv' := [some (.ref 32), some (.int a0), some (.int a1), some (.int a2), some (.int a3), some (.int a4), some (.int (Int32.ofInt 12))]) (by rw [(by decide +kernel : (Int32.ofInt 11) + Int32.ofInt 1 = (Int32.ofInt 12))] <;> rfl) ?_
  refine x_goto (M := M_X11_find) (tgt := 67) dX11_find_129 (by decide) ?_
  refine x_iload (M := M_X11_find) dX11_find_67 rfl ?_
  refine x_bipush (M := M_X11_find) dX11_find_69 ?_
  refine x_icmp_ge (M := M_X11_find) (tgt := 132) dX11_find_71 (by decide) (fun q => absurd q (by decide +kernel)) (fun _ => ?_)
  refine x_aload_n (M := M_X11_find) dX11_find_74 rfl ?_
  refine x_getf (M := M_X11_find) (ci := 14) (C := RX11) (T := TX11) (N := 19) (ty := tyX11) cl14 dX11_find_75 w6323 0 (by decide) t_563 (v := .ref 33) rfl ?_
  refine x_iload (M := M_X11_find) dX11_find_78 rfl ?_
  refine x_aald (M := M_X11_find) (b := 82) dX11_find_80 o6326 (vp_inD (by decide +kernel)) (by decide +kernel) ?_
  refine x_aload_n (M := M_X11_find) dX11_find_81 rfl ?_
  refine x_getf (M := M_X11_find) (ci := 14) (C := RX11) (T := TX11) (N := 19) (ty := tyX11) cl14 dX11_find_82 w6323 15 (by decide) t_578 (v := .ref 274) rfl ?_
  have o6352 := (f6324 82 _ (by decide) o6351)
  refine x_callVR (M := M_X11_find) (M' := M_X6_putBox) rfl rfl dX11_find_85 m_X6_putBox t_2236 t_2237 t_2238 (q5494 hl o6352) rfl rfl o6352 rfl (Nat.le_of_ble_eq_true rfl) (Nat.le_of_ble_eq_true rfl) (Nat.le_of_ble_eq_true rfl) (Nat.le_of_ble_eq_true rfl) ?_
  refine x_if_eq (M := M_X11_find) (tgt := 126) dX11_find_88 (by decide) (fun _ => ?_) (fun q => absurd q (by decide +kernel))
  refine x_iinc (M := M_X11_find) dX11_find_126 rfl (Nat.le_of_ble_eq_true rfl) rfl ?_
  refine x_lvs (M := M_X11_find) (lv' := [some (.ref 32), some (.int a0), some (.int a1), some (.int a2), some (.int a3), some (.int a4), some (.int (Int32.ofInt 13))]) (by rw [(by decide +kernel : (Int32.ofInt 12) + Int32.ofInt 1 = (Int32.ofInt 13))] <;> rfl) ?_
  refine x_goto (M := M_X11_find) (tgt := 67) dX11_find_129 (by decide) ?_
  refine x_iload (M := M_X11_find) dX11_find_67 rfl ?_
  refine x_bipush (M := M_X11_find) dX11_find_69 ?_
  refine x_icmp_ge (M := M_X11_find) (tgt := 132) dX11_find_71 (by decide) (fun q => absurd q (by decide +kernel)) (fun _ => ?_)
  refine x_aload_n (M := M_X11_find) dX11_find_74 rfl ?_
  refine x_getf (M := M_X11_find) (ci := 14) (C := RX11) (T := TX11) (N := 19) (ty := tyX11) cl14 dX11_find_75 w6323 0 (by decide) t_563 (v := .ref 33) rfl ?_
  refine x_iload (M := M_X11_find) dX11_find_78 rfl ?_
  refine x_aald (M := M_X11_find) (b := 86) dX11_find_80 o6326 (vp_inD (by decide +kernel)) (by decide +kernel) ?_
  refine x_aload_n (M := M_X11_find) dX11_find_81 rfl ?_
  refine x_getf (M := M_X11_find) (ci := 14) (C := RX11) (T := TX11) (N := 19) (ty := tyX11) cl14 dX11_find_82 w6323 15 (by decide) t_578 (v := .ref 274) rfl ?_
  have o6354 := (f6324 86 _ (by decide) o6353)
  refine x_callVR (M := M_X11_find) (M' := M_X6_putBox) rfl rfl dX11_find_85 m_X6_putBox t_2236 t_2237 t_2238 (q5497 hl o6354) rfl rfl o6354 rfl (Nat.le_of_ble_eq_true rfl) (Nat.le_of_ble_eq_true rfl) (Nat.le_of_ble_eq_true rfl) (Nat.le_of_ble_eq_true rfl) ?_
  refine x_if_eq (M := M_X11_find) (tgt := 126) dX11_find_88 (by decide) (fun _ => ?_) (fun q => absurd q (by decide +kernel))
  refine x_iinc (M := M_X11_find) dX11_find_126 rfl (Nat.le_of_ble_eq_true rfl) rfl ?_
  refine x_lvs (M := M_X11_find) (lv' := [some (.ref 32), some (.int a0), some (.int a1), some (.int a2), some (.int a3), some (.int a4), some (.int (Int32.ofInt 14))]) (by rw [(by decide +kernel : (Int32.ofInt 13) + Int32.ofInt 1 = (Int32.ofInt 14))] <;> rfl) ?_
  refine x_goto (M := M_X11_find) (tgt := 67) dX11_find_129 (by decide) ?_
  refine x_iload (M := M_X11_find) dX11_find_67 rfl ?_
  refine x_bipush (M := M_X11_find) dX11_find_69 ?_
  refine x_icmp_ge (M := M_X11_find) (tgt := 132) dX11_find_71 (by decide) (fun q => absurd q (by decide +kernel)) (fun _ => ?_)
  refine x_aload_n (M := M_X11_find) dX11_find_74 rfl ?_
  refine x_getf (M := M_X11_find) (ci := 14) (C := RX11) (T := TX11) (N := 19) (ty := tyX11) cl14 dX11_find_75 w6323 0 (by decide) t_563 (v := .ref 33) rfl ?_
  refine x_iload (M := M_X11_find) dX11_find_78 rfl ?_
  refine x_aald (M := M_X11_find) (b := 90) dX11_find_80 o6326 (vp_inD (by decide +kernel)) (by decide +kernel) ?_
  refine x_aload_n (M := M_X11_find) dX11_find_81 rfl ?_
  refine x_getf (M := M_X11_find) (ci := 14) (C := RX11) (T := TX11) (N := 19) (ty := tyX11) cl14 dX11_find_82 w6323 15 (by decide) t_578 (v := .ref 274) rfl ?_
  have o6356 := (f6324 90 _ (by decide) o6355)
  refine x_callVR (M := M_X11_find) (M' := M_X6_putBox) rfl rfl dX11_find_85 m_X6_putBox t_2236 t_2237 t_2238 (q5500 hl o6356) rfl rfl o6356 rfl (Nat.le_of_ble_eq_true rfl) (Nat.le_of_ble_eq_true rfl) (Nat.le_of_ble_eq_true rfl) (Nat.le_of_ble_eq_true rfl) ?_
  refine x_if_eq (M := M_X11_find) (tgt := 126) dX11_find_88 (by decide) (fun _ => ?_) (fun q => absurd q (by decide +kernel))
  refine x_iinc (M := M_X11_find) dX11_find_126 rfl (Nat.le_of_ble_eq_true rfl) rfl ?_
  refine x_lvs (M := M_X11_find) (lv' := [some (.ref 32), some (.int a0), some (.int a1), some (.int a2), some (.int a3), some (.int a4), some (.int (Int32.ofInt 15))]) (by rw [(by decide +kernel : (Int32.ofInt 14) + Int32.ofInt 1 = (Int32.ofInt 15))] <;> rfl) ?_
  refine x_goto (M := M_X11_find) (tgt := 67) dX11_find_129 (by decide) ?_
  refine x_iload (M := M_X11_find) dX11_find_67 rfl ?_
  refine x_bipush (M := M_X11_find) dX11_find_69 ?_
  refine x_icmp_ge (M := M_X11_find) (tgt := 132) dX11_find_71 (by decide) (fun q => absurd q (by decide +kernel)) (fun _ => ?_)
  refine x_aload_n (M := M_X11_find) dX11_find_74 rfl ?_
  refine x_getf (M := M_X11_find) (ci := 14) (C := RX11) (T := TX11) (N := 19) (ty := tyX11) cl14 dX11_find_75 w6323 0 (by decide) t_563 (v := .ref 33) rfl ?_
  refine x_iload (M := M_X11_find) dX11_find_78 rfl ?_
  refine x_aald (M := M_X11_find) (b := 94) dX11_find_80 o6326 (vp_inD (by decide +kernel)) (by decide +kernel) ?_
  refine x_aload_n (M := M_X11_find) dX11_find_81 rfl ?_
  refine x_getf (M := M_X11_find) (ci := 14) (C := RX11) (T := TX11) (N := 19) (ty := tyX11) cl14 dX11_find_82 w6323 15 (by decide) t_578 (v := .ref 274) rfl ?_
  have o6358 := (f6324 94 _ (by decide) o6357)
  refine x_callVR (M := M_X11_find) (M' := M_X6_putBox) rfl rfl dX11_find_85 m_X6_putBox t_2236 t_2237 t_2238 (q5503 hl o6358) rfl rfl o6358 rfl (Nat.le_of_ble_eq_true rfl) (Nat.le_of_ble_eq_true rfl) (Nat.le_of_ble_eq_true rfl) (Nat.le_of_ble_eq_true rfl) ?_
  refine x_if_eq (M := M_X11_find) (tgt := 126) dX11_find_88 (by decide) (fun _ => ?_) (fun q => absurd q (by decide +kernel))
  refine x_iinc (M := M_X11_find) dX11_find_126 rfl (Nat.le_of_ble_eq_true rfl) rfl ?_
  refine x_lvs (M := M_X11_find) (lv' := [some (.ref 32), some (.int a0), some (.int a1), some (.int a2), some (.int a3), some (.int a4), some (.int (Int32.ofInt 16))]) (by rw [(by decide +kernel : (Int32.ofInt 15) + Int32.ofInt 1 = (Int32.ofInt 16))] <;> rfl) ?_
  refine x_goto (M := M_X11_find) (tgt := 67) dX11_find_129 (by decide) ?_
  refine x_iload (M := M_X11_find) dX11_find_67 rfl ?_
  refine x_bipush (M := M_X11_find) dX11_find_69 ?_
  refine x_icmp_ge (M := M_X11_find) (tgt := 132) dX11_find_71 (by decide) (fun q => absurd q (by decide +kernel)) (fun _ => ?_)
  refine x_aload_n (M := M_X11_find) dX11_find_74 rfl ?_
  refine x_getf (M := M_X11_find) (ci := 14) (C := RX11) (T := TX11) (N := 19) (ty := tyX11) cl14 dX11_find_75 w6323 0 (by decide) t_563 (v := .ref 33) rfl ?_
  refine x_iload (M := M_X11_find) dX11_find_78 rfl ?_
  refine x_aald (M := M_X11_find) (b := 98) dX11_find_80 o6326 (vp_inD (by decide +kernel)) (by decide +kernel) ?_
  refine x_aload_n (M := M_X11_find) dX11_find_81 rfl ?_
  refine x_getf (M := M_X11_find) (ci := 14) (C := RX11) (T := TX11) (N := 19) (ty := tyX11) cl14 dX11_find_82 w6323 15 (by decide) t_578 (v := .ref 274) rfl ?_
  have o6360 := (f6324 98 _ (by decide) o6359)
  refine x_callVR (M := M_X11_find) (M' := M_X6_putBox) rfl rfl dX11_find_85 m_X6_putBox t_2236 t_2237 t_2238 (q5506 hl o6360) rfl rfl o6360 rfl (Nat.le_of_ble_eq_true rfl) (Nat.le_of_ble_eq_true rfl) (Nat.le_of_ble_eq_true rfl) (Nat.le_of_ble_eq_true rfl) ?_
  refine x_if_eq (M := M_X11_find) (tgt := 126) dX11_find_88 (by decide) (fun _ => ?_) (fun q => absurd q (by decide +kernel))
  refine x_iinc (M := M_X11_find) dX11_find_126 rfl (Nat.le_of_ble_eq_true rfl) rfl ?_
  refine x_lvs (M := M_X11_find) (lv' := [some (.ref 32), some (.int a0), some (.int a1), some (.int a2), some (.int a3), some (.int a4), some (.int (Int32.ofInt 17))]) (by rw [(by decide +kernel : (Int32.ofInt 16) + Int32.ofInt 1 = (Int32.ofInt 17))] <;> rfl) ?_
  refine x_goto (M := M_X11_find) (tgt := 67) dX11_find_129 (by decide) ?_
  refine x_iload (M := M_X11_find) dX11_find_67 rfl ?_
  refine x_bipush (M := M_X11_find) dX11_find_69 ?_
  refine x_icmp_ge (M := M_X11_find) (tgt := 132) dX11_find_71 (by decide) (fun q => absurd q (by decide +kernel)) (fun _ => ?_)
  refine x_aload_n (M := M_X11_find) dX11_find_74 rfl ?_
  refine x_getf (M := M_X11_find) (ci := 14) (C := RX11) (T := TX11) (N := 19) (ty := tyX11) cl14 dX11_find_75 w6323 0 (by decide) t_563 (v := .ref 33) rfl ?_
  refine x_iload (M := M_X11_find) dX11_find_78 rfl ?_
  refine x_aald (M := M_X11_find) (b := 102) dX11_find_80 o6326 (vp_inD (by decide +kernel)) (by decide +kernel) ?_
  refine x_aload_n (M := M_X11_find) dX11_find_81 rfl ?_
  refine x_getf (M := M_X11_find) (ci := 14) (C := RX11) (T := TX11) (N := 19) (ty := tyX11) cl14 dX11_find_82 w6323 15 (by decide) t_578 (v := .ref 274) rfl ?_
  have o6362 := (f6324 102 _ (by decide) o6361)
  refine x_callVR (M := M_X11_find) (M' := M_X6_putBox) rfl rfl dX11_find_85 m_X6_putBox t_2236 t_2237 t_2238 (q5509 hl o6362) rfl rfl o6362 rfl (Nat.le_of_ble_eq_true rfl) (Nat.le_of_ble_eq_true rfl) (Nat.le_of_ble_eq_true rfl) (Nat.le_of_ble_eq_true rfl) ?_
  refine x_if_eq (M := M_X11_find) (tgt := 126) dX11_find_88 (by decide) (fun _ => ?_) (fun q => absurd q (by decide +kernel))
  refine x_iinc (M := M_X11_find) dX11_find_126 rfl (Nat.le_of_ble_eq_true rfl) rfl ?_
  refine x_lvs (M := M_X11_find) (lv' := [some (.ref 32), some (.int a0), some (.int a1), some (.int a2), some (.int a3), some (.int a4), some (.int (Int32.ofInt 18))]) (by rw [(by decide +kernel : (Int32.ofInt 17) + Int32.ofInt 1 = (Int32.ofInt 18))] <;> rfl) ?_
  refine x_goto (M := M_X11_find) (tgt := 67) dX11_find_129 (by decide) ?_
  refine x_iload (M := M_X11_find) dX11_find_67 rfl ?_
  refine x_bipush (M := M_X11_find) dX11_find_69 ?_
  refine x_icmp_ge (M := M_X11_find) (tgt := 132) dX11_find_71 (by decide) (fun q => absurd q (by decide +kernel)) (fun _ => ?_)
  refine x_aload_n (M := M_X11_find) dX11_find_74 rfl ?_
  refine x_getf (M := M_X11_find) (ci := 14) (C := RX11) (T := TX11) (N := 19) (ty := tyX11) cl14 dX11_find_75 w6323 0 (by decide) t_563 (v := .ref 33) rfl ?_
  refine x_iload (M := M_X11_find) dX11_find_78 rfl ?_
  refine x_aald (M := M_X11_find) (b := 106) dX11_find_80 o6326 (vp_inD (by decide +kernel)) (by decide +kernel) ?_
  refine x_aload_n (M := M_X11_find) dX11_find_81 rfl ?_
  refine x_getf (M := M_X11_find) (ci := 14) (C := RX11) (T := TX11) (N := 19) (ty := tyX11) cl14 dX11_find_82 w6323 15 (by decide) t_578 (v := .ref 274) rfl ?_
  have o6364 := (f6324 106 _ (by decide) o6363)
  refine x_callVR (M := M_X11_find) (M' := M_X6_putBox) rfl rfl dX11_find_85 m_X6_putBox t_2236 t_2237 t_2238 (q5512 hl o6364) rfl rfl o6364 rfl (Nat.le_of_ble_eq_true rfl) (Nat.le_of_ble_eq_true rfl) (Nat.le_of_ble_eq_true rfl) (Nat.le_of_ble_eq_true rfl) ?_
  refine x_if_eq (M := M_X11_find) (tgt := 126) dX11_find_88 (by decide) (fun _ => ?_) (fun q => absurd q (by decide +kernel))
  refine x_iinc (M := M_X11_find) dX11_find_126 rfl (Nat.le_of_ble_eq_true rfl) rfl ?_
  refine x_lvs (M := M_X11_find) (lv' := [some (.ref 32), some (.int a0), some (.int a1), some (.int a2), some (.int a3), some (.int a4), some (.int (Int32.ofInt 19))]) (by rw [(by decide +kernel : (Int32.ofInt 18) + Int32.ofInt 1 = (Int32.ofInt 19))] <;> rfl) ?_
  refine x_goto (M := M_X11_find) (tgt := 67) dX11_find_129 (by decide) ?_
  refine x_iload (M := M_X11_find) dX11_find_67 rfl ?_
  refine x_bipush (M := M_X11_find) dX11_find_69 ?_
  refine x_icmp_ge (M := M_X11_find) (tgt := 132) dX11_find_71 (by decide) (fun q => absurd q (by decide +kernel)) (fun _ => ?_)
  refine x_aload_n (M := M_X11_find) dX11_find_74 rfl ?_
  refine x_getf (M := M_X11_find) (ci := 14) (C := RX11) (T := TX11) (N := 19) (ty := tyX11) cl14 dX11_find_75 w6323 0 (by decide) t_563 (v := .ref 33) rfl ?_
  refine x_iload (M := M_X11_find) dX11_find_78 rfl ?_
  refine x_aald (M := M_X11_find) (b := 110) dX11_find_80 o6326 (vp_inD (by decide +kernel)) (by decide +kernel) ?_
  refine x_aload_n (M := M_X11_find) dX11_find_81 rfl ?_
  refine x_getf (M := M_X11_find) (ci := 14) (C := RX11) (T := TX11) (N := 19) (ty := tyX11) cl14 dX11_find_82 w6323 15 (by decide) t_578 (v := .ref 274) rfl ?_
  have o6366 := (f6324 110 _ (by decide) o6365)
  refine x_callVR (M := M_X11_find) (M' := M_X6_putBox) rfl rfl dX11_find_85 m_X6_putBox t_2236 t_2237 t_2238 (q5515 hl o6366) rfl rfl o6366 rfl (Nat.le_of_ble_eq_true rfl) (Nat.le_of_ble_eq_true rfl) (Nat.le_of_ble_eq_true rfl) (Nat.le_of_ble_eq_true rfl) ?_
  refine x_if_eq (M := M_X11_find) (tgt := 126) dX11_find_88 (by decide) (fun _ => ?_) (fun q => absurd q (by decide +kernel))
  refine x_iinc (M := M_X11_find) dX11_find_126 rfl (Nat.le_of_ble_eq_true rfl) rfl ?_
  refine x_lvs (M := M_X11_find) (lv' := [some (.ref 32), some (.int a0), some (.int a1), some (.int a2), some (.int a3), some (.int a4), some (.int (Int32.ofInt 20))]) (by rw [(by decide +kernel : (Int32.ofInt 19) + Int32.ofInt 1 = (Int32.ofInt 20))] <;> rfl) ?_
  refine x_goto (M := M_X11_find) (tgt := 67) dX11_find_129 (by decide) ?_
  refine x_iload (M := M_X11_find) dX11_find_67 rfl ?_
  refine x_bipush (M := M_X11_find) dX11_find_69 ?_
  refine x_icmp_ge (M := M_X11_find) (tgt := 132) dX11_find_71 (by decide) (fun q => absurd q (by decide +kernel)) (fun _ => ?_)
  refine x_aload_n (M := M_X11_find) dX11_find_74 rfl ?_
  refine x_getf (M := M_X11_find) (ci := 14) (C := RX11) (T := TX11) (N := 19) (ty := tyX11) cl14 dX11_find_75 w6323 0 (by decide) t_563 (v := .ref 33) rfl ?_
  refine x_iload (M := M_X11_find) dX11_find_78 rfl ?_
  refine x_aald (M := M_X11_find) (b := 114) dX11_find_80 o6326 (vp_inD (by decide +kernel)) (by decide +kernel) ?_
  refine x_aload_n (M := M_X11_find) dX11_find_81 rfl ?_
  refine x_getf (M := M_X11_find) (ci := 14) (C := RX11) (T := TX11) (N := 19) (ty := tyX11) cl14 dX11_find_82 w6323 15 (by decide) t_578 (v := .ref 274) rfl ?_
  have o6368 := (f6324 114 _ (by decide) o6367)
  refine x_callVR (M := M_X11_find) (M' := M_X6_putBox) rfl rfl dX11_find_85 m_X6_putBox t_2236 t_2237 t_2238 (q5518 hl o6368) rfl rfl o6368 rfl (Nat.le_of_ble_eq_true rfl) (Nat.le_of_ble_eq_true rfl) (Nat.le_of_ble_eq_true rfl) (Nat.le_of_ble_eq_true rfl) ?_
  refine x_if_eq (M := M_X11_find) (tgt := 126) dX11_find_88 (by decide) (fun _ => ?_) (fun q => absurd q (by decide +kernel))
  refine x_iinc (M := M_X11_find) dX11_find_126 rfl (Nat.le_of_ble_eq_true rfl) rfl ?_
  refine x_lvs (M := M_X11_find) (lv' := [some (.ref 32), some (.int a0), some (.int a1), some (.int a2), some (.int a3), some (.int a4), some (.int (Int32.ofInt 21))]) (by rw [(by decide +kernel : (Int32.ofInt 20) + Int32.ofInt 1 = (Int32.ofInt 21))] <;> rfl) ?_
  refine x_goto (M := M_X11_find) (tgt := 67) dX11_find_129 (by decide) ?_
  refine x_iload (M := M_X11_find) dX11_find_67 rfl ?_
  refine x_bipush (M := M_X11_find) dX11_find_69 ?_
  refine x_icmp_ge (M := M_X11_find) (tgt := 132) dX11_find_71 (by decide) (fun q => absurd q (by decide +kernel)) (fun _ => ?_)
  refine x_aload_n (M := M_X11_find) dX11_find_74 rfl ?_
  refine x_getf (M := M_X11_find) (ci := 14) (C := RX11) (T := TX11) (N := 19) (ty := tyX11) cl14 dX11_find_75 w6323 0 (by decide) t_563 (v := .ref 33) rfl ?_
  refine x_iload (M := M_X11_find) dX11_find_78 rfl ?_
  refine x_aald (M := M_X11_find) (b := 118) dX11_find_80 o6326 (vp_inD (by decide +kernel)) (by decide +kernel) ?_
  refine x_aload_n (M := M_X11_find) dX11_find_81 rfl ?_
  refine x_getf (M := M_X11_find) (ci := 14) (C := RX11) (T := TX11) (N := 19) (ty := tyX11) cl14 dX11_find_82 w6323 15 (by decide) t_578 (v := .ref 274) rfl ?_
  have o6370 := (f6324 118 _ (by decide) o6369)
  refine x_callVR (M := M_X11_find) (M' := M_X6_putBox) rfl rfl dX11_find_85 m_X6_putBox t_2236 t_2237 t_2238 (q5521 hl o6370) rfl rfl o6370 rfl (Nat.le_of_ble_eq_true rfl) (Nat.le_of_ble_eq_true rfl) (Nat.le_of_ble_eq_true rfl) (Nat.le_of_ble_eq_true rfl) ?_
  refine x_if_eq (M := M_X11_find) (tgt := 126) dX11_find_88 (by decide) (fun _ => ?_) (fun q => absurd q (by decide +kernel))
  refine x_iinc (M := M_X11_find) dX11_find_126 rfl (Nat.le_of_ble_eq_true rfl) rfl ?_
  refine x_lvs (M := M_X11_find) (lv' := [some (.ref 32), some (.int a0), some (.int a1), some (.int a2), some (.int a3), some (.int a4), some (.int (Int32.ofInt 22))]) (by rw [(by decide +kernel : (Int32.ofInt 21) + Int32.ofInt 1 = (Int32.ofInt 22))] <;> rfl) ?_
  refine x_goto (M := M_X11_find) (tgt := 67) dX11_find_129 (by decide) ?_
  refine x_iload (M := M_X11_find) dX11_find_67 rfl ?_
  refine x_bipush (M := M_X11_find) dX11_find_69 ?_
  refine x_icmp_ge (M := M_X11_find) (tgt := 132) dX11_find_71 (by decide) (fun q => absurd q (by decide +kernel)) (fun _ => ?_)
  refine x_aload_n (M := M_X11_find) dX11_find_74 rfl ?_
  refine x_getf (M := M_X11_find) (ci := 14) (C := RX11) (T := TX11) (N := 19) (ty := tyX11) cl14 dX11_find_75 w6323 0 (by decide) t_563 (v := .ref 33) rfl ?_
  refine x_iload (M := M_X11_find) dX11_find_78 rfl ?_
  refine x_aald (M := M_X11_find) (b := 122) dX11_find_80 o6326 (vp_inD (by decide +kernel)) (by decide +kernel) ?_
  refine x_aload_n (M := M_X11_find) dX11_find_81 rfl ?_
  refine x_getf (M := M_X11_find) (ci := 14) (C := RX11) (T := TX11) (N := 19) (ty := tyX11) cl14 dX11_find_82 w6323 15 (by decide) t_578 (v := .ref 274) rfl ?_
  have o6372 := (f6324 122 _ (by decide) o6371)
  refine x_callVR (M := M_X11_find) (M' := M_X6_putBox) rfl rfl dX11_find_85 m_X6_putBox t_2236 t_2237 t_2238 (q5524 hl o6372) rfl rfl o6372 rfl (Nat.le_of_ble_eq_true rfl) (Nat.le_of_ble_eq_true rfl) (Nat.le_of_ble_eq_true rfl) (Nat.le_of_ble_eq_true rfl) ?_
  refine x_if_eq (M := M_X11_find) (tgt := 126) dX11_find_88 (by decide) (fun _ => ?_) (fun q => absurd q (by decide +kernel))
  refine x_iinc (M := M_X11_find) dX11_find_126 rfl (Nat.le_of_ble_eq_true rfl) rfl ?_
  refine x_lvs (M := M_X11_find) (lv' := [some (.ref 32), some (.int a0), some (.int a1), some (.int a2), some (.int a3), some (.int a4), some (.int (Int32.ofInt 23))]) (by rw [(by decide +kernel : (Int32.ofInt 22) + Int32.ofInt 1 = (Int32.ofInt 23))] <;> rfl) ?_
  refine x_goto (M := M_X11_find) (tgt := 67) dX11_find_129 (by decide) ?_
  refine x_iload (M := M_X11_find) dX11_find_67 rfl ?_
  refine x_bipush (M := M_X11_find) dX11_find_69 ?_
  refine x_icmp_ge (M := M_X11_find) (tgt := 132) dX11_find_71 (by decide) (fun q => absurd q (by decide +kernel)) (fun _ => ?_)
  refine x_aload_n (M := M_X11_find) dX11_find_74 rfl ?_
  refine x_getf (M := M_X11_find) (ci := 14) (C := RX11) (T := TX11) (N := 19) (ty := tyX11) cl14 dX11_find_75 w6323 0 (by decide) t_563 (v := .ref 33) rfl ?_
  refine x_iload (M := M_X11_find) dX11_find_78 rfl ?_
  refine x_aald (M := M_X11_find) (b := 126) dX11_find_80 o6326 (vp_inD (by decide +kernel)) (by decide +kernel) ?_
  refine x_aload_n (M := M_X11_find) dX11_find_81 rfl ?_
  refine x_getf (M := M_X11_find) (ci := 14) (C := RX11) (T := TX11) (N := 19) (ty := tyX11) cl14 dX11_find_82 w6323 15 (by decide) t_578 (v := .ref 274) rfl ?_
  have o6374 := (f6324 126 _ (by decide) o6373)
  refine x_callVR (M := M_X11_find) (M' := M_X6_putBox) rfl rfl dX11_find_85 m_X6_putBox t_2236 t_2237 t_2238 (q5527 hl o6374) rfl rfl o6374 rfl (Nat.le_of_ble_eq_true rfl) (Nat.le_of_ble_eq_true rfl) (Nat.le_of_ble_eq_true rfl) (Nat.le_of_ble_eq_true rfl) ?_
  refine x_if_eq (M := M_X11_find) (tgt := 126) dX11_find_88 (by decide) (fun _ => ?_) (fun q => absurd q (by decide +kernel))
  refine x_iinc (M := M_X11_find) dX11_find_126 rfl (Nat.le_of_ble_eq_true rfl) rfl ?_
  refine x_lvs (M := M_X11_find) (lv' := [some (.ref 32), some (.int a0), some (.int a1), some (.int a2), some (.int a3), some (.int a4), some (.int (Int32.ofInt 24))]) (by rw [(by decide +kernel : (Int32.ofInt 23) + Int32.ofInt 1 = (Int32.ofInt 24))] <;> rfl) ?_
  refine x_goto (M := M_X11_find) (tgt := 67) dX11_find_129 (by decide) ?_
  refine x_iload (M := M_X11_find) dX11_find_67 rfl ?_
  refine x_bipush (M := M_X11_find) dX11_find_69 ?_
  refine x_icmp_ge (M := M_X11_find) (tgt := 132) dX11_find_71 (by decide) (fun q => absurd q (by decide +kernel)) (fun _ => ?_)
  refine x_aload_n (M := M_X11_find) dX11_find_74 rfl ?_
  refine x_getf (M := M_X11_find) (ci := 14) (C := RX11) (T := TX11) (N := 19) (ty := tyX11) cl14 dX11_find_75 w6323 0 (by decide) t_563 (v := .ref 33) rfl ?_
  refine x_iload (M := M_X11_find) dX11_find_78 rfl ?_
  refine x_aald (M := M_X11_find) (b := 130) dX11_find_80 o6326 (vp_inD (by decide +kernel)) (by decide +kernel) ?_
  refine x_aload_n (M := M_X11_find) dX11_find_81 rfl ?_
  refine x_getf (M := M_X11_find) (ci := 14) (C := RX11) (T := TX11) (N := 19) (ty := tyX11) cl14 dX11_find_82 w6323 15 (by decide) t_578 (v := .ref 274) rfl ?_
  have o6376 := (f6324 130 _ (by decide) o6375)
  refine x_callVR (M := M_X11_find) (M' := M_X6_putBox) rfl rfl dX11_find_85 m_X6_putBox t_2236 t_2237 t_2238 (q5530 hl o6376) rfl rfl o6376 rfl (Nat.le_of_ble_eq_true rfl) (Nat.le_of_ble_eq_true rfl) (Nat.le_of_ble_eq_true rfl) (Nat.le_of_ble_eq_true rfl) ?_
  refine x_if_eq (M := M_X11_find) (tgt := 126) dX11_find_88 (by decide) (fun _ => ?_) (fun q => absurd q (by decide +kernel))
  refine x_iinc (M := M_X11_find) dX11_find_126 rfl (Nat.le_of_ble_eq_true rfl) rfl ?_
  refine x_lvs (M := M_X11_find) (lv' := [some (.ref 32), some (.int a0), some (.int a1), some (.int a2), some (.int a3), some (.int a4), some (.int (Int32.ofInt 25))]) (by rw [(by decide +kernel : (Int32.ofInt 24) + Int32.ofInt 1 = (Int32.ofInt 25))] <;> rfl) ?_
  refine x_goto (M := M_X11_find) (tgt := 67) dX11_find_129 (by decide) ?_
  refine x_iload (M := M_X11_find) dX11_find_67 rfl ?_
  refine x_bipush (M := M_X11_find) dX11_find_69 ?_
  refine x_icmp_ge (M := M_X11_find) (tgt := 132) dX11_find_71 (by decide) (fun q => absurd q (by decide +kernel)) (fun _ => ?_)
  refine x_aload_n (M := M_X11_find) dX11_find_74 rfl ?_
  refine x_getf (M := M_X11_find) (ci := 14) (C := RX11) (T := TX11) (N := 19) (ty := tyX11) cl14 dX11_find_75 w6323 0 (by decide) t_563 (v := .ref 33) rfl ?_
  refine x_iload (M := M_X11_find) dX11_find_78 rfl ?_
  refine x_aald (M := M_X11_find) (b := 134) dX11_find_80 o6326 (vp_inD (by decide +kernel)) (by decide +kernel) ?_
  refine x_aload_n (M := M_X11_find) dX11_find_81 rfl ?_
  refine x_getf (M := M_X11_find) (ci := 14) (C := RX11) (T := TX11) (N := 19) (ty := tyX11) cl14 dX11_find_82 w6323 15 (by decide) t_578 (v := .ref 274) rfl ?_
  have o6378 := (f6324 134 _ (by decide) o6377)
  refine x_callVR (M := M_X11_find) (M' := M_X6_putBox) rfl rfl dX11_find_85 m_X6_putBox t_2236 t_2237 t_2238 (q5533 hl o6378) rfl rfl o6378 rfl (Nat.le_of_ble_eq_true rfl) (Nat.le_of_ble_eq_true rfl) (Nat.le_of_ble_eq_true rfl) (Nat.le_of_ble_eq_true rfl) ?_
  refine x_if_eq (M := M_X11_find) (tgt := 126) dX11_find_88 (by decide) (fun _ => ?_) (fun q => absurd q (by decide +kernel))
  refine x_iinc (M := M_X11_find) dX11_find_126 rfl (Nat.le_of_ble_eq_true rfl) rfl ?_
  refine x_lvs (M := M_X11_find) (lv' := [some (.ref 32), some (.int a0), some (.int a1), some (.int a2), some (.int a3), some (.int a4), some (.int (Int32.ofInt 26))]) (by rw [(by decide +kernel : (Int32.ofInt 25) + Int32.ofInt 1 = (Int32.ofInt 26))] <;> rfl) ?_
  refine x_goto (M := M_X11_find) (tgt := 67) dX11_find_129 (by decide) ?_
  refine x_iload (M := M_X11_find) dX11_find_67 rfl ?_
  refine x_bipush (M := M_X11_find) dX11_find_69 ?_
  refine x_icmp_ge (M := M_X11_find) (tgt := 132) dX11_find_71 (by decide) (fun q => absurd q (by decide +kernel)) (fun _ => ?_)
  refine x_aload_n (M := M_X11_find) dX11_find_74 rfl ?_
  refine x_getf (M := M_X11_find) (ci := 14) (C := RX11) (T := TX11) (N := 19) (ty := tyX11) cl14 dX11_find_75 w6323 0 (by decide) t_563 (v := .ref 33) rfl ?_
  refine x_iload (M := M_X11_find) dX11_find_78 rfl ?_
  refine x_aald (M := M_X11_find) (b := 138) dX11_find_80 o6326 (vp_inD (by decide +kernel)) (by decide +kernel) ?_
  refine x_aload_n (M := M_X11_find) dX11_find_81 rfl ?_
  refine x_getf (M := M_X11_find) (ci := 14) (C := RX11) (T := TX11) (N := 19) (ty := tyX11) cl14 dX11_find_82 w6323 15 (by decide) t_578 (v := .ref 274) rfl ?_
  have o6380 := (f6324 138 _ (by decide) o6379)
  refine x_callVR (M := M_X11_find) (M' := M_X6_putBox) rfl rfl dX11_find_85 m_X6_putBox t_2236 t_2237 t_2238 (q5536 hl o6380) rfl rfl o6380 rfl (Nat.le_of_ble_eq_true rfl) (Nat.le_of_ble_eq_true rfl) (Nat.le_of_ble_eq_true rfl) (Nat.le_of_ble_eq_true rfl) ?_
  refine x_if_eq (M := M_X11_find) (tgt := 126) dX11_find_88 (by decide) (fun _ => ?_) (fun q => absurd q (by decide +kernel))
  refine x_iinc (M := M_X11_find) dX11_find_126 rfl (Nat.le_of_ble_eq_true rfl) rfl ?_
  refine x_lvs (M := M_X11_find) (lv' := [some (.ref 32), some (.int a0), some (.int a1), some (.int a2), some (.int a3), some (.int a4), some (.int (Int32.ofInt 27))]) (by rw [(by decide +kernel : (Int32.ofInt 26) + Int32.ofInt 1 = (Int32.ofInt 27))] <;> rfl) ?_
  refine x_goto (M := M_X11_find) (tgt := 67) dX11_find_129 (by decide) ?_
  refine x_iload (M := M_X11_find) dX11_find_67 rfl ?_
  refine x_bipush (M := M_X11_find) dX11_find_69 ?_
  refine x_icmp_ge (M := M_X11_find) (tgt := 132) dX11_find_71 (by decide) (fun q => absurd q (by decide +kernel)) (fun _ => ?_)
  refine x_aload_n (M := M_X11_find) dX11_find_74 rfl ?_
  refine x_getf (M := M_X11_find) (ci := 14) (C := RX11) (T := TX11) (N := 19) (ty := tyX11) cl14 dX11_find_75 w6323 0 (by decide) t_563 (v := .ref 33) rfl ?_
  refine x_iload (M := M_X11_find) dX11_find_78 rfl ?_
  refine x_aald (M := M_X11_find) (b := 142) dX11_find_80 o6326 (vp_inD (by decide +kernel)) (by decide +kernel) ?_
  refine x_aload_n (M := M_X11_find) dX11_find_81 rfl ?_
  refine x_getf (M := M_X11_find) (ci := 14) (C := RX11) (T := TX11) (N := 19) (ty := tyX11) cl14 dX11_find_82 w6323 15 (by decide) t_578 (v := .ref 274) rfl ?_
  have o6382 := (f6324 142 _ (by decide) o6381)
  refine x_callVR (M := M_X11_find) (M' := M_X6_putBox) rfl rfl dX11_find_85 m_X6_putBox t_2236 t_2237 t_2238 (q5539 hl o6382) rfl rfl o6382 rfl (Nat.le_of_ble_eq_true rfl) (Nat.le_of_ble_eq_true rfl) (Nat.le_of_ble_eq_true rfl) (Nat.le_of_ble_eq_true rfl) ?_
  refine x_if_eq (M := M_X11_find) (tgt := 126) dX11_find_88 (by decide) (fun _ => ?_) (fun q => absurd q (by decide +kernel))
  refine x_iinc (M := M_X11_find) dX11_find_126 rfl (Nat.le_of_ble_eq_true rfl) rfl ?_
  refine x_lvs (M := M_X11_find) (lv' := [some (.ref 32), some (.int a0), some (.int a1), some (.int a2), some (.int a3), some (.int a4), some (.int (Int32.ofInt 28))]) (by rw [(by decide +kernel : (Int32.ofInt 27) + Int32.ofInt 1 = (Int32.ofInt 28))] <;> rfl) ?_
  refine x_goto (M := M_X11_find) (tgt := 67) dX11_find_129 (by decide) ?_
  refine x_iload (M := M_X11_find) dX11_find_67 rfl ?_
  refine x_bipush (M := M_X11_find) dX11_find_69 ?_
  refine x_icmp_ge (M := M_X11_find) (tgt := 132) dX11_find_71 (by decide) (fun q => absurd q (by decide +kernel)) (fun _ => ?_)
  refine x_aload_n (M := M_X11_find) dX11_find_74 rfl ?_
  refine x_getf (M := M_X11_find) (ci := 14) (C := RX11) (T := TX11) (N := 19) (ty := tyX11) cl14 dX11_find_75 w6323 0 (by decide) t_563 (v := .ref 33) rfl ?_
  refine x_iload (M := M_X11_find) dX11_find_78 rfl ?_
  refine x_aald (M := M_X11_find) (b := 146) dX11_find_80 o6326 (vp_inD (by decide +kernel)) (by decide +kernel) ?_
  refine x_aload_n (M := M_X11_find) dX11_find_81 rfl ?_
  refine x_getf (M := M_X11_find) (ci := 14) (C := RX11) (T := TX11) (N := 19) (ty := tyX11) cl14 dX11_find_82 w6323 15 (by decide) t_578 (v := .ref 274) rfl ?_
  have o6384 := (f6324 146 _ (by decide) o6383)
  refine x_callVR (M := M_X11_find) (M' := M_X6_putBox) rfl rfl dX11_find_85 m_X6_putBox t_2236 t_2237 t_2238 (q5542 hl o6384) rfl rfl o6384 rfl (Nat.le_of_ble_eq_true rfl) (Nat.le_of_ble_eq_true rfl) (Nat.le_of_ble_eq_true rfl) (Nat.le_of_ble_eq_true rfl) ?_
  refine x_if_eq (M := M_X11_find) (tgt := 126) dX11_find_88 (by decide) (fun _ => ?_) (fun q => absurd q (by decide +kernel))
  refine x_iinc (M := M_X11_find) dX11_find_126 rfl (Nat.le_of_ble_eq_true rfl) rfl ?_
  refine x_lvs (M := M_X11_find) (lv' := [some (.ref 32), some (.int a0), some (.int a1), some (.int a2), some (.int a3), some (.int a4), some (.int (Int32.ofInt 29))]) (by rw [(by decide +kernel : (Int32.ofInt 28) + Int32.ofInt 1 = (Int32.ofInt 29))] <;> rfl) ?_
  refine x_goto (M := M_X11_find) (tgt := 67) dX11_find_129 (by decide) ?_
  refine x_iload (M := M_X11_find) dX11_find_67 rfl ?_
  refine x_bipush (M := M_X11_find) dX11_find_69 ?_
  refine x_icmp_ge (M := M_X11_find) (tgt := 132) dX11_find_71 (by decide) (fun q => absurd q (by decide +kernel)) (fun _ => ?_)
  refine x_aload_n (M := M_X11_find) dX11_find_74 rfl ?_
  refine x_getf (M := M_X11_find) (ci := 14) (C := RX11) (T := TX11) (N := 19) (ty := tyX11) cl14 dX11_find_75 w6323 0 (by decide) t_563 (v := .ref 33) rfl ?_
  refine x_iload (M := M_X11_find) dX11_find_78 rfl ?_
  refine x_aald (M := M_X11_find) (b := 150) dX11_find_80 o6326 (vp_inD (by decide +kernel)) (by decide +kernel) ?_
  refine x_aload_n (M := M_X11_find) dX11_find_81 rfl ?_
  refine x_getf (M := M_X11_find) (ci := 14) (C := RX11) (T := TX11) (N := 19) (ty := tyX11) cl14 dX11_find_82 w6323 15 (by decide) t_578 (v := .ref 274) rfl ?_
  have o6386 := (f6324 150 _ (by decide) o6385)
  refine x_callVR (M := M_X11_find) (M' := M_X6_putBox) rfl rfl dX11_find_85 m_X6_putBox t_2236 t_2237 t_2238 (q5545 hl o6386) rfl rfl o6386 rfl (Nat.le_of_ble_eq_true rfl) (Nat.le_of_ble_eq_true rfl) (Nat.le_of_ble_eq_true rfl) (Nat.le_of_ble_eq_true rfl) ?_
  refine x_if_eq (M := M_X11_find) (tgt := 126) dX11_find_88 (by decide) (fun _ => ?_) (fun q => absurd q (by decide +kernel))
  refine x_iinc (M := M_X11_find) dX11_find_126 rfl (Nat.le_of_ble_eq_true rfl) rfl ?_
  refine x_lvs (M := M_X11_find) (lv' := [some (.ref 32), some (.int a0), some (.int a1), some (.int a2), some (.int a3), some (.int a4), some (.int (Int32.ofInt 30))]) (by rw [(by decide +kernel : (Int32.ofInt 29) + Int32.ofInt 1 = (Int32.ofInt 30))] <;> rfl) ?_
  refine x_goto (M := M_X11_find) (tgt := 67) dX11_find_129 (by decide) ?_
  refine x_iload (M := M_X11_find) dX11_find_67 rfl ?_
  refine x_bipush (M := M_X11_find) dX11_find_69 ?_
  refine x_icmp_ge (M := M_X11_find) (tgt := 132) dX11_find_71 (by decide) (fun q => absurd q (by decide +kernel)) (fun _ => ?_)
  refine x_aload_n (M := M_X11_find) dX11_find_74 rfl ?_
  refine x_getf (M := M_X11_find) (ci := 14) (C := RX11) (T := TX11) (N := 19) (ty := tyX11) cl14 dX11_find_75 w6323 0 (by decide) t_563 (v := .ref 33) rfl ?_
  refine x_iload (M := M_X11_find) dX11_find_78 rfl ?_
  refine x_aald (M := M_X11_find) (b := 154) dX11_find_80 o6326 (vp_inD (by decide +kernel)) (by decide +kernel) ?_
  refine x_aload_n (M := M_X11_find) dX11_find_81 rfl ?_
  refine x_getf (M := M_X11_find) (ci := 14) (C := RX11) (T := TX11) (N := 19) (ty := tyX11) cl14 dX11_find_82 w6323 15 (by decide) t_578 (v := .ref 274) rfl ?_
  have o6388 := (f6324 154 _ (by decide) o6387)
  refine x_callVR (M := M_X11_find) (M' := M_X6_putBox) rfl rfl dX11_find_85 m_X6_putBox t_2236 t_2237 t_2238 (q5548 hl o6388) rfl rfl o6388 rfl (Nat.le_of_ble_eq_true rfl) (Nat.le_of_ble_eq_true rfl) (Nat.le_of_ble_eq_true rfl) (Nat.le_of_ble_eq_true rfl) ?_
  refine x_if_eq (M := M_X11_find) (tgt := 126) dX11_find_88 (by decide) (fun _ => ?_) (fun q => absurd q (by decide +kernel))
  refine x_iinc (M := M_X11_find) dX11_find_126 rfl (Nat.le_of_ble_eq_true rfl) rfl ?_
  refine x_lvs (M := M_X11_find) (lv' := [some (.ref 32), some (.int a0), some (.int a1), some (.int a2), some (.int a3), some (.int a4), some (.int (Int32.ofInt 31))]) (by rw [(by decide +kernel : (Int32.ofInt 30) + Int32.ofInt 1 = (Int32.ofInt 31))] <;> rfl) ?_
  refine x_goto (M := M_X11_find) (tgt := 67) dX11_find_129 (by decide) ?_
  refine x_iload (M := M_X11_find) dX11_find_67 rfl ?_
  refine x_bipush (M := M_X11_find) dX11_find_69 ?_
  refine x_icmp_ge (M := M_X11_find) (tgt := 132) dX11_find_71 (by decide) (fun q => absurd q (by decide +kernel)) (fun _ => ?_)
  refine x_aload_n (M := M_X11_find) dX11_find_74 rfl ?_
  refine x_getf (M := M_X11_find) (ci := 14) (C := RX11) (T := TX11) (N := 19) (ty := tyX11) cl14 dX11_find_75 w6323 0 (by decide) t_563 (v := .ref 33) rfl ?_
  refine x_iload (M := M_X11_find) dX11_find_78 rfl ?_
  refine x_aald (M := M_X11_find) (b := 158) dX11_find_80 o6326 (vp_inD (by decide +kernel)) (by decide +kernel) ?_
  refine x_aload_n (M := M_X11_find) dX11_find_81 rfl ?_
  refine x_getf (M := M_X11_find) (ci := 14) (C := RX11) (T := TX11) (N := 19) (ty := tyX11) cl14 dX11_find_82 w6323 15 (by decide) t_578 (v := .ref 274) rfl ?_
  have o6390 := (f6324 158 _ (by decide) o6389)
  refine x_callVR (M := M_X11_find) (M' := M_X6_putBox) rfl rfl dX11_find_85 m_X6_putBox t_2236 t_2237 t_2238 (q5551 hl o6390) rfl rfl o6390 rfl (Nat.le_of_ble_eq_true rfl) (Nat.le_of_ble_eq_true rfl) (Nat.le_of_ble_eq_true rfl) (Nat.le_of_ble_eq_true rfl) ?_
  refine x_if_eq (M := M_X11_find) (tgt := 126) dX11_find_88 (by decide) (fun _ => ?_) (fun q => absurd q (by decide +kernel))
  refine x_iinc (M := M_X11_find) dX11_find_126 rfl (Nat.le_of_ble_eq_true rfl) rfl ?_
  refine x_lvs (M := M_X11_find) (lv' := [some (.ref 32), some (.int a0), some (.int a1), some (.int a2), some (.int a3), some (.int a4), some (.int (Int32.ofInt 32))]) (by rw [(by decide +kernel : (Int32.ofInt 31) + Int32.ofInt 1 = (Int32.ofInt 32))] <;> rfl) ?_
  refine x_goto (M := M_X11_find) (tgt := 67) dX11_find_129 (by decide) ?_
  refine x_iload (M := M_X11_find) dX11_find_67 rfl ?_
  refine x_bipush (M := M_X11_find) dX11_find_69 ?_
  refine x_icmp_ge (M := M_X11_find) (tgt := 132) dX11_find_71 (by decide) (fun _ => ?_) (fun q => absurd q (by decide +kernel))
  refine x_aload_n (M := M_X11_find) dX11_find_132 rfl ?_
  refine x_getf (M := M_X11_find) (ci := 14) (C := RX11) (T := TX11) (N := 19) (ty := tyX11) cl14 dX11_find_133 w6323 18 (by decide) t_581 (v := .int (Int32.ofInt 0)) rfl ?_
  exact x_iret (M := M_X11_find) dX11_find_136 rfl ⟨rfl, (fr_tr f6324 (by decide) fr_rf), ⟨w6323, trivial⟩⟩ (Nat.le_of_ble_eq_true rfl) (Nat.le_of_ble_eq_true rfl)
set_option maxRecDepth 10000 in
theorem q6436 {l : Launch} {E : EE} (hl : l.stackTraces = false) {h : HP} {a0 : Int32} {a1 : Int32} {a2 : Int32} {a3 : Int32} {a4 : Int32} (c0 : ¬ (a0.toInt < 0)) (c1 : ¬ (2 < a0.toInt)) (c2 : ¬ (a1.toInt < (-1000000000))) (c3 : ¬ (a2.toInt < (-1000000000))) (c4 : ¬ (1000000000 < a3.toInt)) (c5 : ¬ (1000000000 < a4.toInt)) (c6 : ¬ (a3.toInt < a1.toInt)) (c7 : ¬ (a4.toInt < a2.toInt)) (o6392 : ob h 32 = some (.inr (14, [.ref 33, .ref 162, .ref 166, .int (0 : Int32), .int (0 : Int32), .int (0 : Int32), .ref 167, .ref 170, .ref 173, .ref 177, .ref 193, .ref 208, .ref 222, .ref 238, .ref 252, .ref 274, .ref 275, .ref 276, .int (0 : Int32)]))) (o6393 : ob h 33 = some (.inl (4, 32, .inr (.inr (.inr (.inr (shf 1 32))))))) (o6394 : ob h 34 = some (.inr (9, [.ref 35, .ref 36, .ref 37, .int (0 : Int32), .int (0 : Int32)]))) (o6395 : ob h 38 = some (.inr (9, [.ref 39, .ref 40, .ref 41, .int (0 : Int32), .int (0 : Int32)]))) (o6396 : ob h 42 = some (.inr (9, [.ref 43, .ref 44, .ref 45, .int (0 : Int32), .int (0 : Int32)]))) (o6397 : ob h 46 = some (.inr (9, [.ref 47, .ref 48, .ref 49, .int (0 : Int32), .int (0 : Int32)]))) (o6398 : ob h 50 = some (.inr (9, [.ref 51, .ref 52, .ref 53, .int (0 : Int32), .int (0 : Int32)]))) (o6399 : ob h 54 = some (.inr (9, [.ref 55, .ref 56, .ref 57, .int (0 : Int32), .int (0 : Int32)]))) (o6400 : ob h 58 = some (.inr (9, [.ref 59, .ref 60, .ref 61, .int (0 : Int32), .int (0 : Int32)]))) (o6401 : ob h 62 = some (.inr (9, [.ref 63, .ref 64, .ref 65, .int (0 : Int32), .int (0 : Int32)]))) (o6402 : ob h 66 = some (.inr (9, [.ref 67, .ref 68, .ref 69, .int (0 : Int32), .int (0 : Int32)]))) (o6403 : ob h 70 = some (.inr (9, [.ref 71, .ref 72, .ref 73, .int (0 : Int32), .int (0 : Int32)]))) (o6404 : ob h 74 = some (.inr (9, [.ref 75, .ref 76, .ref 77, .int (0 : Int32), .int (0 : Int32)]))) (o6405 : ob h 78 = some (.inr (9, [.ref 79, .ref 80, .ref 81, .int (0 : Int32), .int (0 : Int32)]))) (o6406 : ob h 82 = some (.inr (9, [.ref 83, .ref 84, .ref 85, .int (0 : Int32), .int (0 : Int32)]))) (o6407 : ob h 86 = some (.inr (9, [.ref 87, .ref 88, .ref 89, .int (0 : Int32), .int (0 : Int32)]))) (o6408 : ob h 90 = some (.inr (9, [.ref 91, .ref 92, .ref 93, .int (0 : Int32), .int (0 : Int32)]))) (o6409 : ob h 94 = some (.inr (9, [.ref 95, .ref 96, .ref 97, .int (0 : Int32), .int (0 : Int32)]))) (o6410 : ob h 98 = some (.inr (9, [.ref 99, .ref 100, .ref 101, .int (0 : Int32), .int (0 : Int32)]))) (o6411 : ob h 102 = some (.inr (9, [.ref 103, .ref 104, .ref 105, .int (0 : Int32), .int (0 : Int32)]))) (o6412 : ob h 106 = some (.inr (9, [.ref 107, .ref 108, .ref 109, .int (0 : Int32), .int (0 : Int32)]))) (o6413 : ob h 110 = some (.inr (9, [.ref 111, .ref 112, .ref 113, .int (0 : Int32), .int (0 : Int32)]))) (o6414 : ob h 114 = some (.inr (9, [.ref 115, .ref 116, .ref 117, .int (0 : Int32), .int (0 : Int32)]))) (o6415 : ob h 118 = some (.inr (9, [.ref 119, .ref 120, .ref 121, .int (0 : Int32), .int (0 : Int32)]))) (o6416 : ob h 122 = some (.inr (9, [.ref 123, .ref 124, .ref 125, .int (0 : Int32), .int (0 : Int32)]))) (o6417 : ob h 126 = some (.inr (9, [.ref 127, .ref 128, .ref 129, .int (0 : Int32), .int (0 : Int32)]))) (o6418 : ob h 130 = some (.inr (9, [.ref 131, .ref 132, .ref 133, .int (0 : Int32), .int (0 : Int32)]))) (o6419 : ob h 134 = some (.inr (9, [.ref 135, .ref 136, .ref 137, .int (0 : Int32), .int (0 : Int32)]))) (o6420 : ob h 138 = some (.inr (9, [.ref 139, .ref 140, .ref 141, .int (0 : Int32), .int (0 : Int32)]))) (o6421 : ob h 142 = some (.inr (9, [.ref 143, .ref 144, .ref 145, .int (0 : Int32), .int (0 : Int32)]))) (o6422 : ob h 146 = some (.inr (9, [.ref 147, .ref 148, .ref 149, .int (0 : Int32), .int (0 : Int32)]))) (o6423 : ob h 150 = some (.inr (9, [.ref 151, .ref 152, .ref 153, .int (0 : Int32), .int (0 : Int32)]))) (o6424 : ob h 154 = some (.inr (9, [.ref 155, .ref 156, .ref 157, .int (0 : Int32), .int (0 : Int32)]))) (o6425 : ob h 158 = some (.inr (9, [.ref 159, .ref 160, .ref 161, .int (0 : Int32), .int (0 : Int32)]))) (o6430 : ob h 359 = some (.inl (1, 1, .inr (.inl (fun _ => 0))))) : en_C l E M_L_find 2 0 0 [.ref 32, .int a0, .int a1, .int a2, .int a3, .int a4, .ref 359] h (pF (some (.int (Int32.ofInt 0))) [32, 359] h (fun h' => ob h' 359 = some (.inl (1, 1, .inr (.inl (fun _ => 0)))) ∧ True)) := by
  refine en_mkW m_L_find rfl hl (Nat.le_of_ble_eq_true rfl) ?_
  refine x_aload (M := M_L_find) dL_find_0 rfl ?_
  refine x_iconst (M := M_L_find) dL_find_2 ?_
  refine x_aload_n (M := M_L_find) dL_find_3 rfl ?_
  refine x_iload_n (M := M_L_find) dL_find_4 rfl ?_
  refine x_iload_n (M := M_L_find) dL_find_5 rfl ?_
  refine x_iload_n (M := M_L_find) dL_find_6 rfl ?_
  refine x_iload (M := M_L_find) dL_find_7 rfl ?_
  refine x_iload (M := M_L_find) dL_find_9 rfl ?_
  refine y_callVHR (M := M_L_find) (M' := M_X11_find) rfl dL_find_11 m_X11_find t_2245 t_2246 t_2247 o6392 rfl (q6391 hl c0 c1 c2 c3 c4 c5 c6 c7 o6392 o6393 o6394 o6395 o6396 o6397 o6398 o6399 o6400 o6401 o6402 o6403 o6404 o6405 o6406 o6407 o6408 o6409 o6410 o6411 o6412 o6413 o6414 o6415 o6416 o6417 o6418 o6419 o6420 o6421 o6422 o6423 o6424 o6425) rfl rfl (Nat.le_of_ble_eq_true rfl) (Nat.le_of_ble_eq_true rfl) (Nat.le_of_ble_eq_true rfl) (Nat.le_of_ble_eq_true rfl) (fun h6426 f6427 w6428 => ?_)
  obtain ⟨o6429, -⟩ := w6428
  refine x_i2l (M := M_L_find) dL_find_14 ?_
  refine x_norm (M := M_L_find) (st' := [.long (Int64.ofInt 0), .int (Int32.ofInt 0), .ref 359]) rfl (vj_cons (by decide +kernel : ((Int32.ofInt 0).toInt64) = (Int64.ofInt 0)) rfl) rfl rfl rfl ?_
  have o6431 := (f6427 359 _ (by decide) o6430)
  refine y_last (M := M_L_find) (k := 0) dL_find_15 o6431 (vp_inD (by decide +kernel)) (by decide +kernel) (fun h6432 w6433 f6434 => ?_)
  have w6435 : ob h6432 359 = some (.inl (1, 1, .inr (.inl (fun _ => 0)))) := by rw [w6433, uq_z (k := 0)]
  refine x_goto (M := M_L_find) (tgt := 23) dL_find_16 (by decide) ?_
  refine x_iconst (M := M_L_find) dL_find_23 ?_
  exact x_iret (M := M_L_find) dL_find_24 rfl ⟨rfl, (fr_tr f6434 (by decide) (fr_tr f6427 (by decide) fr_rf)), ⟨w6435, trivial⟩⟩ (Nat.le_of_ble_eq_true rfl) (Nat.le_of_ble_eq_true rfl)
set_option maxRecDepth 10000 in
theorem q6480 {l : Launch} {E : EE} (hl : l.stackTraces = false) {h : HP} {a2 : Int32} {a4 : Int32} (c0 : ¬ (a2.toInt < (-1000000000))) (c1 : ¬ (1000000000 < a4.toInt)) (c2 : ¬ (a4.toInt < a2.toInt)) : en_C l E M_X12_in 0 0 0 [.long (a2.toInt64), .long (Int64.ofInt (-1000000000)), .long (Int64.ofInt 1000000000)] h (pR (some (.int (Int32.ofInt 1))) h) := by
  refine en_mk m_X12_in rfl hl (Nat.le_of_ble_eq_true rfl) ?_
  refine x_lload_n (M := M_X12_in) dX12_in_0 rfl ?_
  refine x_lload_n (M := M_X12_in) dX12_in_1 rfl ?_
  refine x_lcmp (M := M_X12_in) dX12_in_2 ?_
  refine x_if_lt (M := M_X12_in) (tgt := 17) dX12_in_3 (by decide) (fun q => absurd ((bc_lt (i_i2l rfl) (by decide +kernel)).mp q) (by omega : ¬ (a2.toInt < (-1000000000)))) (fun _ => ?_)
  refine x_lload_n (M := M_X12_in) dX12_in_6 rfl ?_
  refine x_lload (M := M_X12_in) dX12_in_7 rfl ?_
  refine x_lcmp (M := M_X12_in) dX12_in_9 ?_
  refine x_if_gt (M := M_X12_in) (tgt := 17) dX12_in_10 (by decide) (fun q => absurd ((bc_gt (i_i2l rfl) (by decide +kernel)).mp q) (by omega : ¬ (1000000000 < a2.toInt))) (fun _ => ?_)
  refine x_iconst (M := M_X12_in) dX12_in_13 ?_
  refine x_goto (M := M_X12_in) (tgt := 18) dX12_in_14 (by decide) ?_
  exact x_zret (M := M_X12_in) dX12_in_18 rfl (by decide) ⟨rfl, rfl⟩ (Nat.le_of_ble_eq_true rfl) (Nat.le_of_ble_eq_true rfl)
set_option maxRecDepth 10000 in
theorem q6481 {l : Launch} {E : EE} (hl : l.stackTraces = false) {h : HP} {a2 : Int32} {a4 : Int32} (c0 : ¬ (a2.toInt < (-1000000000))) (c1 : ¬ (1000000000 < a4.toInt)) (c2 : ¬ (a4.toInt < a2.toInt)) : en_C l E M_X12_isFar 1 0 0 [.long (a2.toInt64)] h (pR (some (.int (Int32.ofInt 1))) h) := by
  refine en_mk m_X12_isFar rfl hl (Nat.le_of_ble_eq_true rfl) ?_
  refine x_lload_n (M := M_X12_isFar) dX12_isFar_0 rfl ?_
  refine x_ldc2 (M := M_X12_isFar) dX12_isFar_1 t_3136 ?_
  refine x_ldc2 (M := M_X12_isFar) dX12_isFar_4 t_2937 ?_
  refine x_norm (M := M_X12_isFar) (st' := [.long (Int64.ofInt 1000000000), .long (Int64.ofInt (-1000000000)), .long (a2.toInt64)]) rfl (vj_cons (by decide +kernel : (1000000000 : Int64) = (Int64.ofInt 1000000000)) (vj_cons (by decide +kernel : (-1000000000 : Int64) = (Int64.ofInt (-1000000000))) rfl)) rfl rfl rfl ?_
  refine x_callSR (M := M_X12_isFar) (M' := M_X12_in) rfl rfl dX12_isFar_7 m_X12_in t_2818 t_2819 (q6480 hl c0 c1 c2) rfl rfl (Nat.le_of_ble_eq_true rfl) (Nat.le_of_ble_eq_true rfl) (Nat.le_of_ble_eq_true rfl) (Nat.le_of_ble_eq_true rfl) ?_
  exact x_zret (M := M_X12_isFar) dX12_isFar_10 rfl (by decide) ⟨rfl, rfl⟩ (Nat.le_of_ble_eq_true rfl) (Nat.le_of_ble_eq_true rfl)
set_option maxRecDepth 10000 in
theorem q6482 {l : Launch} {E : EE} (hl : l.stackTraces = false) {h : HP} {a2 : Int32} {a4 : Int32} (c0 : ¬ (a2.toInt < (-1000000000))) (c1 : ¬ (1000000000 < a4.toInt)) (c2 : ¬ (a4.toInt < a2.toInt)) : en_C l E M_X12_in 0 0 0 [.long (a4.toInt64), .long (Int64.ofInt (-1000000000)), .long (Int64.ofInt 1000000000)] h (pR (some (.int (Int32.ofInt 1))) h) := by
  refine en_mk m_X12_in rfl hl (Nat.le_of_ble_eq_true rfl) ?_
  refine x_lload_n (M := M_X12_in) dX12_in_0 rfl ?_
  refine x_lload_n (M := M_X12_in) dX12_in_1 rfl ?_
  refine x_lcmp (M := M_X12_in) dX12_in_2 ?_
  refine x_if_lt (M := M_X12_in) (tgt := 17) dX12_in_3 (by decide) (fun q => absurd ((bc_lt (i_i2l rfl) (by decide +kernel)).mp q) (by omega : ¬ (a4.toInt < (-1000000000)))) (fun _ => ?_)
  refine x_lload_n (M := M_X12_in) dX12_in_6 rfl ?_
  refine x_lload (M := M_X12_in) dX12_in_7 rfl ?_
  refine x_lcmp (M := M_X12_in) dX12_in_9 ?_
  refine x_if_gt (M := M_X12_in) (tgt := 17) dX12_in_10 (by decide) (fun q => absurd ((bc_gt (i_i2l rfl) (by decide +kernel)).mp q) (by omega : ¬ (1000000000 < a4.toInt))) (fun _ => ?_)
  refine x_iconst (M := M_X12_in) dX12_in_13 ?_
  refine x_goto (M := M_X12_in) (tgt := 18) dX12_in_14 (by decide) ?_
  exact x_zret (M := M_X12_in) dX12_in_18 rfl (by decide) ⟨rfl, rfl⟩ (Nat.le_of_ble_eq_true rfl) (Nat.le_of_ble_eq_true rfl)
set_option maxRecDepth 10000 in
theorem q6483 {l : Launch} {E : EE} (hl : l.stackTraces = false) {h : HP} {a2 : Int32} {a4 : Int32} (c0 : ¬ (a2.toInt < (-1000000000))) (c1 : ¬ (1000000000 < a4.toInt)) (c2 : ¬ (a4.toInt < a2.toInt)) : en_C l E M_X12_isFar 1 0 0 [.long (a4.toInt64)] h (pR (some (.int (Int32.ofInt 1))) h) := by
  refine en_mk m_X12_isFar rfl hl (Nat.le_of_ble_eq_true rfl) ?_
  refine x_lload_n (M := M_X12_isFar) dX12_isFar_0 rfl ?_
  refine x_ldc2 (M := M_X12_isFar) dX12_isFar_1 t_3136 ?_
  refine x_ldc2 (M := M_X12_isFar) dX12_isFar_4 t_2937 ?_
  refine x_norm (M := M_X12_isFar) (st' := [.long (Int64.ofInt 1000000000), .long (Int64.ofInt (-1000000000)), .long (a4.toInt64)]) rfl (vj_cons (by decide +kernel : (1000000000 : Int64) = (Int64.ofInt 1000000000)) (vj_cons (by decide +kernel : (-1000000000 : Int64) = (Int64.ofInt (-1000000000))) rfl)) rfl rfl rfl ?_
  refine x_callSR (M := M_X12_isFar) (M' := M_X12_in) rfl rfl dX12_isFar_7 m_X12_in t_2818 t_2819 (q6482 hl c0 c1 c2) rfl rfl (Nat.le_of_ble_eq_true rfl) (Nat.le_of_ble_eq_true rfl) (Nat.le_of_ble_eq_true rfl) (Nat.le_of_ble_eq_true rfl) ?_
  exact x_zret (M := M_X12_isFar) dX12_isFar_10 rfl (by decide) ⟨rfl, rfl⟩ (Nat.le_of_ble_eq_true rfl) (Nat.le_of_ble_eq_true rfl)
set_option maxRecDepth 10000 in
theorem q6493 {l : Launch} {E : EE} (hl : l.stackTraces = false) {h : HP} {a0 : Int32} {a1 : Int32} {a2 : Int32} {a3 : Int32} {a4 : Int32} {dg : Int32} (c0 : ¬ (a0.toInt < 0)) (c1 : ¬ (2 < a0.toInt)) (c2 : ¬ (a1.toInt < (-1000000000))) (c3 : ¬ (a2.toInt < (-1000000000))) (c4 : ¬ (1000000000 < a3.toInt)) (c5 : ¬ (1000000000 < a4.toInt)) (c6 : ¬ (a3.toInt < a1.toInt)) (c7 : ¬ (a4.toInt < a2.toInt)) (o6476 : ob h 277 = some (.inr (15, (RB dg)))) (o6491 : ob h 282 = some (.inl (0, 33, .inl (fun _ => 0)))) : en_C l E M_X12_find 2 0 0 [.ref 277, .int a0, .int a1, .int a2, .int a3, .int a4] h (pF (some (.int (Int32.ofInt 0))) [277] h (fun h' => ob h' 277 = some (.inr (15, (((RB dg).set 0 (.int (Int32.ofInt 0))).set 16 (.int (Int32.ofInt 0))))) ∧ True)) := by
  refine en_mk m_X12_find rfl hl (Nat.le_of_ble_eq_true rfl) ?_
  refine x_aload_n (M := M_X12_find) dX12_find_0 rfl ?_
  refine x_iconst (M := M_X12_find) dX12_find_1 ?_
  refine y_put (M := M_X12_find) (ci := 15) (C := RX12) (T := TX12) (N := 135) (ty := tyX12) cl15 dX12_find_2 o6476 0 (by decide) t_2391 (Or.inl rfl) (Nat.le_of_ble_eq_true rfl) rfl (fun h6477 w6478 f6479 => ?_)
  refine x_iload_n (M := M_X12_find) dX12_find_5 rfl ?_
  refine x_i2l (M := M_X12_find) dX12_find_6 ?_
  refine x_lconst (M := M_X12_find) dX12_find_7 ?_
  refine x_ldc2 (M := M_X12_find) dX12_find_8 t_3091 ?_
  refine x_norm (M := M_X12_find) (st' := [.long (Int64.ofInt 2), .long (Int64.ofInt 0), .long (a0.toInt64)]) rfl (vj_cons (by decide +kernel : (2 : Int64) = (Int64.ofInt 2)) (vj_cons (by decide +kernel : (Int64.ofNat ((0 : Fin 2) : Nat)) = (Int64.ofInt 0)) rfl)) rfl rfl rfl ?_
  refine x_callSR (M := M_X12_find) (M' := M_X12_in) rfl rfl dX12_find_11 m_X12_in t_2818 t_2819 (q5833 hl c0 c1) rfl rfl (Nat.le_of_ble_eq_true rfl) (Nat.le_of_ble_eq_true rfl) (Nat.le_of_ble_eq_true rfl) (Nat.le_of_ble_eq_true rfl) ?_
  refine x_if_eq (M := M_X12_find) (tgt := 67) dX12_find_14 (by decide) (fun q => absurd q (by decide +kernel)) (fun _ => ?_)
  refine x_iload_n (M := M_X12_find) dX12_find_17 rfl ?_
  refine x_i2l (M := M_X12_find) dX12_find_18 ?_
  refine x_callSR (M := M_X12_find) (M' := M_X12_isFar) rfl rfl dX12_find_19 m_X12_isFar t_3133 t_3134 (q6253 hl c2 c4 c6) rfl rfl (Nat.le_of_ble_eq_true rfl) (Nat.le_of_ble_eq_true rfl) (Nat.le_of_ble_eq_true rfl) (Nat.le_of_ble_eq_true rfl) ?_
  refine x_if_eq (M := M_X12_find) (tgt := 67) dX12_find_22 (by decide) (fun q => absurd q (by decide +kernel)) (fun _ => ?_)
  refine x_iload_n (M := M_X12_find) dX12_find_25 rfl ?_
  refine x_i2l (M := M_X12_find) dX12_find_26 ?_
  refine x_callSR (M := M_X12_find) (M' := M_X12_isFar) rfl rfl dX12_find_27 m_X12_isFar t_3133 t_3134 (q6481 hl c3 c5 c7) rfl rfl (Nat.le_of_ble_eq_true rfl) (Nat.le_of_ble_eq_true rfl) (Nat.le_of_ble_eq_true rfl) (Nat.le_of_ble_eq_true rfl) ?_
  refine x_if_eq (M := M_X12_find) (tgt := 67) dX12_find_30 (by decide) (fun q => absurd q (by decide +kernel)) (fun _ => ?_)
  refine x_iload (M := M_X12_find) dX12_find_33 rfl ?_
  refine x_i2l (M := M_X12_find) dX12_find_35 ?_
  refine x_callSR (M := M_X12_find) (M' := M_X12_isFar) rfl rfl dX12_find_36 m_X12_isFar t_3133 t_3134 (q6282 hl c2 c4 c6) rfl rfl (Nat.le_of_ble_eq_true rfl) (Nat.le_of_ble_eq_true rfl) (Nat.le_of_ble_eq_true rfl) (Nat.le_of_ble_eq_true rfl) ?_
  refine x_if_eq (M := M_X12_find) (tgt := 67) dX12_find_39 (by decide) (fun q => absurd q (by decide +kernel)) (fun _ => ?_)
  refine x_iload (M := M_X12_find) dX12_find_42 rfl ?_
  refine x_i2l (M := M_X12_find) dX12_find_44 ?_
  refine x_callSR (M := M_X12_find) (M' := M_X12_isFar) rfl rfl dX12_find_45 m_X12_isFar t_3133 t_3134 (q6483 hl c3 c5 c7) rfl rfl (Nat.le_of_ble_eq_true rfl) (Nat.le_of_ble_eq_true rfl) (Nat.le_of_ble_eq_true rfl) (Nat.le_of_ble_eq_true rfl) ?_
  refine x_if_eq (M := M_X12_find) (tgt := 67) dX12_find_48 (by decide) (fun q => absurd q (by decide +kernel)) (fun _ => ?_)
  refine x_iload_n (M := M_X12_find) dX12_find_51 rfl ?_
  refine x_iload (M := M_X12_find) dX12_find_52 rfl ?_
  refine x_icmp_gt (M := M_X12_find) (tgt := 67) dX12_find_54 (by decide) (fun q => absurd ((bi_lt rfl rfl).mp q) (by omega : ¬ (a3.toInt < a1.toInt))) (fun _ => ?_)
  refine x_iload_n (M := M_X12_find) dX12_find_57 rfl ?_
  refine x_iload (M := M_X12_find) dX12_find_58 rfl ?_
  refine x_icmp_gt (M := M_X12_find) (tgt := 67) dX12_find_60 (by decide) (fun q => absurd ((bi_lt rfl rfl).mp q) (by omega : ¬ (a4.toInt < a2.toInt))) (fun _ => ?_)
  refine x_iconst (M := M_X12_find) dX12_find_63 ?_
  refine x_goto (M := M_X12_find) (tgt := 68) dX12_find_64 (by decide) ?_
  refine x_istore (M := M_X12_find) dX12_find_68 (Nat.le_of_ble_eq_true rfl) rfl ?_
  refine x_aload_n (M := M_X12_find) dX12_find_70 rfl ?_
  refine x_iload (M := M_X12_find) dX12_find_71 rfl ?_
  refine x_if_ne (M := M_X12_find) (tgt := 80) dX12_find_73 (by decide) (fun _ => ?_) (fun q => absurd q (by decide +kernel))
  refine x_iconst (M := M_X12_find) dX12_find_80 ?_
  refine x_iconst (M := M_X12_find) dX12_find_81 ?_
  refine y_callVR (M := M_X12_find) (M' := M_X12_fails) rfl rfl dX12_find_82 m_X12_fails t_2805 t_2807 s_157 (q241 hl w6478) rfl rfl w6478 rfl (Nat.le_of_ble_eq_true rfl) (Nat.le_of_ble_eq_true rfl) (Nat.le_of_ble_eq_true rfl) (Nat.le_of_ble_eq_true rfl) (fun h6484 f6485 w6486 => ?_)
  obtain ⟨o6487, -⟩ := w6486
  refine x_if_eq (M := M_X12_find) (tgt := 90) dX12_find_85 (by decide) (fun _ => ?_) (fun q => absurd q (by decide +kernel))
  refine x_aload_n (M := M_X12_find) dX12_find_90 rfl ?_
  refine x_iconst (M := M_X12_find) dX12_find_91 ?_
  refine y_put (M := M_X12_find) (ci := 15) (C := RX12) (T := TX12) (N := 135) (ty := tyX12) cl15 dX12_find_92 o6487 16 (by decide) t_2407 (Or.inl rfl) (Nat.le_of_ble_eq_true rfl) rfl (fun h6488 w6489 f6490 => ?_)
  refine x_iconst (M := M_X12_find) dX12_find_95 ?_
  refine x_istore (M := M_X12_find) dX12_find_96 (Nat.le_of_ble_eq_true rfl) rfl ?_
  refine x_iload (M := M_X12_find) dX12_find_98 rfl ?_
  refine x_bipush (M := M_X12_find) dX12_find_100 ?_
  refine x_icmp_ge (M := M_X12_find) (tgt := 360) dX12_find_102 (by decide) (fun q => absurd q (by decide +kernel)) (fun _ => ?_)
  refine x_aload_n (M := M_X12_find) dX12_find_105 rfl ?_
  refine x_iload (M := M_X12_find) dX12_find_106 rfl ?_
  have o6492 := (f6490 282 _ (by decide) (f6485 282 _ (by decide) (f6479 282 _ (by decide) o6491)))
  refine x_callVR (M := M_X12_find) (M' := M_X12_box) rfl rfl dX12_find_108 m_X12_box t_3124 t_3126 s_210 (q5656 hl w6489 o6492) rfl rfl w6489 rfl (Nat.le_of_ble_eq_true rfl) (Nat.le_of_ble_eq_true rfl) (Nat.le_of_ble_eq_true rfl) (Nat.le_of_ble_eq_true rfl) ?_
  refine x_if_ne (M := M_X12_find) (tgt := 117) dX12_find_111 (by decide) (fun q => absurd q (by decide +kernel)) (fun _ => ?_)
  refine x_goto (M := M_X12_find) (tgt := 354) dX12_find_114 (by decide) ?_
  refine x_iinc (M := M_X12_find) dX12_find_354 rfl (Nat.le_of_ble_eq_true rfl) rfl ?_
  refine x_lvs (M := M_X12_find) (lv' := [some (.ref 277), some (.int a0), some (.int a1), some (.int a2), some (.int a3), some (.int a4), some (.int (Int32.ofInt 1)), some (.int (Int32.ofInt 1)), none, none, none]) (by rw [(by decide +kernel : (Int32.ofInt 0) + Int32.ofInt 1 = (Int32.ofInt 1))] <;> rfl) ?_
  refine x_goto (M := M_X12_find) (tgt := 98) dX12_find_357 (by decide) ?_
  refine x_iload (M := M_X12_find) dX12_find_98 rfl ?_
  refine x_bipush (M := M_X12_find) dX12_find_100 ?_
  refine x_icmp_ge (M := M_X12_find) (tgt := 360) dX12_find_102 (by decide) (fun q => absurd q (by decide +kernel)) (fun _ => ?_)
  refine x_aload_n (M := M_X12_find) dX12_find_105 rfl ?_
  refine x_iload (M := M_X12_find) dX12_find_106 rfl ?_
  refine x_callVR (M := M_X12_find) (M' := M_X12_box) rfl rfl dX12_find_108 m_X12_box t_3124 t_3126 s_210 (q5661 hl w6489 o6492) rfl rfl w6489 rfl (Nat.le_of_ble_eq_true rfl) (Nat.le_of_ble_eq_true rfl) (Nat.le_of_ble_eq_true rfl) (Nat.le_of_ble_eq_true rfl) ?_
  refine x_if_ne (M := M_X12_find) (tgt := 117) dX12_find_111 (by decide) (fun q => absurd q (by decide +kernel)) (fun _ => ?_)
  refine x_goto (M := M_X12_find) (tgt := 354) dX12_find_114 (by decide) ?_
  refine x_iinc (M := M_X12_find) dX12_find_354 rfl (Nat.le_of_ble_eq_true rfl) rfl ?_
  refine x_lvs (M := M_X12_find) (lv' := [some (.ref 277), some (.int a0), some (.int a1), some (.int a2), some (.int a3), some (.int a4), some (.int (Int32.ofInt 1)), some (.int (Int32.ofInt 2)), none, none, none]) (by rw [(by decide +kernel : (Int32.ofInt 1) + Int32.ofInt 1 = (Int32.ofInt 2))] <;> rfl) ?_
  refine x_goto (M := M_X12_find) (tgt := 98) dX12_find_357 (by decide) ?_
  refine x_iload (M := M_X12_find) dX12_find_98 rfl ?_
  refine x_bipush (M := M_X12_find) dX12_find_100 ?_
  refine x_icmp_ge (M := M_X12_find) (tgt := 360) dX12_find_102 (by decide) (fun q => absurd q (by decide +kernel)) (fun _ => ?_)
  refine x_aload_n (M := M_X12_find) dX12_find_105 rfl ?_
  refine x_iload (M := M_X12_find) dX12_find_106 rfl ?_
  refine x_callVR (M := M_X12_find) (M' := M_X12_box) rfl rfl dX12_find_108 m_X12_box t_3124 t_3126 s_210 (q5664 hl w6489 o6492) rfl rfl w6489 rfl (Nat.le_of_ble_eq_true rfl) (Nat.le_of_ble_eq_true rfl) (Nat.le_of_ble_eq_true rfl) (Nat.le_of_ble_eq_true rfl) ?_
  refine x_if_ne (M := M_X12_find) (tgt := 117) dX12_find_111 (by decide) (fun q => absurd q (by decide +kernel)) (fun _ => ?_)
  refine x_goto (M := M_X12_find) (tgt := 354) dX12_find_114 (by decide) ?_
  refine x_iinc (M := M_X12_find) dX12_find_354 rfl (Nat.le_of_ble_eq_true rfl) rfl ?_
  refine x_lvs (M := M_X12_find) (lv' := [some (.ref 277), some (.int a0), some (.int a1), some (.int a2), some (.int a3), some (.int a4), some (.int (Int32.ofInt 1)), some (.int (Int32.ofInt 3)), none, none, none]) (by rw [(by decide +kernel : (Int32.ofInt 2) + Int32.ofInt 1 = (Int32.ofInt 3))] <;> rfl) ?_
  refine x_goto (M := M_X12_find) (tgt := 98) dX12_find_357 (by decide) ?_
  refine x_iload (M := M_X12_find) dX12_find_98 rfl ?_
  refine x_bipush (M := M_X12_find) dX12_find_100 ?_
  refine x_icmp_ge (M := M_X12_find) (tgt := 360) dX12_find_102 (by decide) (fun q => absurd q (by decide +kernel)) (fun _ => ?_)
  refine x_aload_n (M := M_X12_find) dX12_find_105 rfl ?_
  refine x_iload (M := M_X12_find) dX12_find_106 rfl ?_
  refine x_callVR (M := M_X12_find) (M' := M_X12_box) rfl rfl dX12_find_108 m_X12_box t_3124 t_3126 s_210 (q5667 hl w6489 o6492) rfl rfl w6489 rfl (Nat.le_of_ble_eq_true rfl) (Nat.le_of_ble_eq_true rfl) (Nat.le_of_ble_eq_true rfl) (Nat.le_of_ble_eq_true rfl) ?_
  refine x_if_ne (M := M_X12_find) (tgt := 117) dX12_find_111 (by decide) (fun q => absurd q (by decide +kernel)) (fun _ => ?_)
  refine x_goto (M := M_X12_find) (tgt := 354) dX12_find_114 (by decide) ?_
  refine x_iinc (M := M_X12_find) dX12_find_354 rfl (Nat.le_of_ble_eq_true rfl) rfl ?_
  refine x_lvs (M := M_X12_find) (lv' := [some (.ref 277), some (.int a0), some (.int a1), some (.int a2), some (.int a3), some (.int a4), some (.int (Int32.ofInt 1)), some (.int (Int32.ofInt 4)), none, none, none]) (by rw [(by decide +kernel : (Int32.ofInt 3) + Int32.ofInt 1 = (Int32.ofInt 4))] <;> rfl) ?_
  refine x_goto (M := M_X12_find) (tgt := 98) dX12_find_357 (by decide) ?_
  refine x_iload (M := M_X12_find) dX12_find_98 rfl ?_
  refine x_bipush (M := M_X12_find) dX12_find_100 ?_
  refine x_icmp_ge (M := M_X12_find) (tgt := 360) dX12_find_102 (by decide) (fun q => absurd q (by decide +kernel)) (fun _ => ?_)
  refine x_aload_n (M := M_X12_find) dX12_find_105 rfl ?_
  refine x_iload (M := M_X12_find) dX12_find_106 rfl ?_
  refine x_callVR (M := M_X12_find) (M' := M_X12_box) rfl rfl dX12_find_108 m_X12_box t_3124 t_3126 s_210 (q5670 hl w6489 o6492) rfl rfl w6489 rfl (Nat.le_of_ble_eq_true rfl) (Nat.le_of_ble_eq_true rfl) (Nat.le_of_ble_eq_true rfl) (Nat.le_of_ble_eq_true rfl) ?_
  refine x_if_ne (M := M_X12_find) (tgt := 117) dX12_find_111 (by decide) (fun q => absurd q (by decide +kernel)) (fun _ => ?_)
  refine x_goto (M := M_X12_find) (tgt := 354) dX12_find_114 (by decide) ?_
  refine x_iinc (M := M_X12_find) dX12_find_354 rfl (Nat.le_of_ble_eq_true rfl) rfl ?_
  refine x_lvs (M := M_X12_find) (lv' := [some (.ref 277), some (.int a0), some (.int a1), some (.int a2), some (.int a3), some (.int a4), some (.int (Int32.ofInt 1)), some (.int (Int32.ofInt 5)), none, none, none]) (by rw [(by decide +kernel : (Int32.ofInt 4) + Int32.ofInt 1 = (Int32.ofInt 5))] <;> rfl) ?_
  refine x_goto (M := M_X12_find) (tgt := 98) dX12_find_357 (by decide) ?_
  refine x_iload (M := M_X12_find) dX12_find_98 rfl ?_
  refine x_bipush (M := M_X12_find) dX12_find_100 ?_
  refine x_icmp_ge (M := M_X12_find) (tgt := 360) dX12_find_102 (by decide) (fun q => absurd q (by decide +kernel)) (fun _ => ?_)
  refine x_aload_n (M := M_X12_find) dX12_find_105 rfl ?_
  refine x_iload (M := M_X12_find) dX12_find_106 rfl ?_
  refine x_callVR (M := M_X12_find) (M' := M_X12_box) rfl rfl dX12_find_108 m_X12_box t_3124 t_3126 s_210 (q5673 hl w6489 o6492) rfl rfl w6489 rfl (Nat.le_of_ble_eq_true rfl) (Nat.le_of_ble_eq_true rfl) (Nat.le_of_ble_eq_true rfl) (Nat.le_of_ble_eq_true rfl) ?_
  refine x_if_ne (M := M_X12_find) (tgt := 117) dX12_find_111 (by decide) (fun q => absurd q (by decide +kernel)) (fun _ => ?_)
  refine x_goto (M := M_X12_find) (tgt := 354) dX12_find_114 (by decide) ?_
  refine x_iinc (M := M_X12_find) dX12_find_354 rfl (Nat.le_of_ble_eq_true rfl) rfl ?_
  refine x_lvs (M := M_X12_find) (lv' := [some (.ref 277), some (.int a0), some (.int a1), some (.int a2), some (.int a3), some (.int a4), some (.int (Int32.ofInt 1)), some (.int (Int32.ofInt 6)), none, none, none]) (by rw [(by decide +kernel : (Int32.ofInt 5) + Int32.ofInt 1 = (Int32.ofInt 6))] <;> rfl) ?_
  refine x_goto (M := M_X12_find) (tgt := 98) dX12_find_357 (by decide) ?_
  refine x_iload (M := M_X12_find) dX12_find_98 rfl ?_
  refine x_bipush (M := M_X12_find) dX12_find_100 ?_
  refine x_icmp_ge (M := M_X12_find) (tgt := 360) dX12_find_102 (by decide) (fun q => absurd q (by decide +kernel)) (fun _ => ?_)
  refine x_aload_n (M := M_X12_find) dX12_find_105 rfl ?_
  refine x_iload (M := M_X12_find) dX12_find_106 rfl ?_
  refine x_callVR (M := M_X12_find) (M' := M_X12_box) rfl rfl dX12_find_108 m_X12_box t_3124 t_3126 s_210 (q5676 hl w6489 o6492) rfl rfl w6489 rfl (Nat.le_of_ble_eq_true rfl) (Nat.le_of_ble_eq_true rfl) (Nat.le_of_ble_eq_true rfl) (Nat.le_of_ble_eq_true rfl) ?_
  refine x_if_ne (M := M_X12_find) (tgt := 117) dX12_find_111 (by decide) (fun q => absurd q (by decide +kernel)) (fun _ => ?_)
  refine x_goto (M := M_X12_find) (tgt := 354) dX12_find_114 (by decide) ?_
  refine x_iinc (M := M_X12_find) dX12_find_354 rfl (Nat.le_of_ble_eq_true rfl) rfl ?_
  refine x_lvs (M := M_X12_find) (lv' := [some (.ref 277), some (.int a0), some (.int a1), some (.int a2), some (.int a3), some (.int a4), some (.int (Int32.ofInt 1)), some (.int (Int32.ofInt 7)), none, none, none]) (by rw [(by decide +kernel : (Int32.ofInt 6) + Int32.ofInt 1 = (Int32.ofInt 7))] <;> rfl) ?_
  refine x_goto (M := M_X12_find) (tgt := 98) dX12_find_357 (by decide) ?_
  refine x_iload (M := M_X12_find) dX12_find_98 rfl ?_
  refine x_bipush (M := M_X12_find) dX12_find_100 ?_
  refine x_icmp_ge (M := M_X12_find) (tgt := 360) dX12_find_102 (by decide) (fun q => absurd q (by decide +kernel)) (fun _ => ?_)
  refine x_aload_n (M := M_X12_find) dX12_find_105 rfl ?_
  refine x_iload (M := M_X12_find) dX12_find_106 rfl ?_
  refine x_callVR (M := M_X12_find) (M' := M_X12_box) rfl rfl dX12_find_108 m_X12_box t_3124 t_3126 s_210 (q5679 hl w6489 o6492) rfl rfl w6489 rfl (Nat.le_of_ble_eq_true rfl) (Nat.le_of_ble_eq_true rfl) (Nat.le_of_ble_eq_true rfl) (Nat.le_of_ble_eq_true rfl) ?_
  refine x_if_ne (M := M_X12_find) (tgt := 117) dX12_find_111 (by decide) (fun q => absurd q (by decide +kernel)) (fun _ => ?_)
  refine x_goto (M := M_X12_find) (tgt := 354) dX12_find_114 (by decide) ?_
  refine x_iinc (M := M_X12_find) dX12_find_354 rfl (Nat.le_of_ble_eq_true rfl) rfl ?_
  refine x_lvs (M := M_X12_find) (lv' := [some (.ref 277), some (.int a0), some (.int a1), some (.int a2), some (.int a3), some (.int a4), some (.int (Int32.ofInt 1)), some (.int (Int32.ofInt 8)), none, none, none]) (by rw [(by decide +kernel : (Int32.ofInt 7) + Int32.ofInt 1 = (Int32.ofInt 8))] <;> rfl) ?_
  refine x_goto (M := M_X12_find) (tgt := 98) dX12_find_357 (by decide) ?_
  refine x_iload (M := M_X12_find) dX12_find_98 rfl ?_
  refine x_bipush (M := M_X12_find) dX12_find_100 ?_
  refine x_icmp_ge (M := M_X12_find) (tgt := 360) dX12_find_102 (by decide) (fun q => absurd q (by decide +kernel)) (fun _ => ?_)
  refine x_aload_n (M := M_X12_find) dX12_find_105 rfl ?_
  refine x_iload (M := M_X12_find) dX12_find_106 rfl ?_
  refine x_callVR (M := M_X12_find) (M' := M_X12_box) rfl rfl dX12_find_108 m_X12_box t_3124 t_3126 s_210 (q5682 hl w6489 o6492) rfl rfl w6489 rfl (Nat.le_of_ble_eq_true rfl) (Nat.le_of_ble_eq_true rfl) (Nat.le_of_ble_eq_true rfl) (Nat.le_of_ble_eq_true rfl) ?_
  refine x_if_ne (M := M_X12_find) (tgt := 117) dX12_find_111 (by decide) (fun q => absurd q (by decide +kernel)) (fun _ => ?_)
  refine x_goto (M := M_X12_find) (tgt := 354) dX12_find_114 (by decide) ?_
  refine x_iinc (M := M_X12_find) dX12_find_354 rfl (Nat.le_of_ble_eq_true rfl) rfl ?_
  refine x_lvs (M := M_X12_find) (lv' := [some (.ref 277), some (.int a0), some (.int a1), some (.int a2), some (.int a3), some (.int a4), some (.int (Int32.ofInt 1)), some (.int (Int32.ofInt 9)), none, none, none]) (by rw [(by decide +kernel : (Int32.ofInt 8) + Int32.ofInt 1 = (Int32.ofInt 9))] <;> rfl) ?_
  refine x_goto (M := M_X12_find) (tgt := 98) dX12_find_357 (by decide) ?_
  refine x_iload (M := M_X12_find) dX12_find_98 rfl ?_
  refine x_bipush (M := M_X12_find) dX12_find_100 ?_
  refine x_icmp_ge (M := M_X12_find) (tgt := 360) dX12_find_102 (by decide) (fun q => absurd q (by decide +kernel)) (fun _ => ?_)
  refine x_aload_n (M := M_X12_find) dX12_find_105 rfl ?_
  refine x_iload (M := M_X12_find) dX12_find_106 rfl ?_
  refine x_callVR (M := M_X12_find) (M' := M_X12_box) rfl rfl dX12_find_108 m_X12_box t_3124 t_3126 s_210 (q5685 hl w6489 o6492) rfl rfl w6489 rfl (Nat.le_of_ble_eq_true rfl) (Nat.le_of_ble_eq_true rfl) (Nat.le_of_ble_eq_true rfl) (Nat.le_of_ble_eq_true rfl) ?_
  refine x_if_ne (M := M_X12_find) (tgt := 117) dX12_find_111 (by decide) (fun q => absurd q (by decide +kernel)) (fun _ => ?_)
  refine x_goto (M := M_X12_find) (tgt := 354) dX12_find_114 (by decide) ?_
  refine x_iinc (M := M_X12_find) dX12_find_354 rfl (Nat.le_of_ble_eq_true rfl) rfl ?_
  refine x_lvs (M := M_X12_find) (lv' := [some (.ref 277), some (.int a0), some (.int a1), some (.int a2), some (.int a3), some (.int a4), some (.int (Int32.ofInt 1)), some (.int (Int32.ofInt 10)), none, none, none]) (by rw [(by decide +kernel : (Int32.ofInt 9) + Int32.ofInt 1 = (Int32.ofInt 10))] <;> rfl) ?_
  refine x_goto (M := M_X12_find) (tgt := 98) dX12_find_357 (by decide) ?_
  refine x_iload (M := M_X12_find) dX12_find_98 rfl ?_
  refine x_bipush (M := M_X12_find) dX12_find_100 ?_
  refine x_icmp_ge (M := M_X12_find) (tgt := 360) dX12_find_102 (by decide) (fun q => absurd q (by decide +kernel)) (fun _ => ?_)
  refine x_aload_n (M := M_X12_find) dX12_find_105 rfl ?_
  refine x_iload (M := M_X12_find) dX12_find_106 rfl ?_
  refine x_callVR (M := M_X12_find) (M' := M_X12_box) rfl rfl dX12_find_108 m_X12_box t_3124 t_3126 s_210 (q5688 hl w6489 o6492) rfl rfl w6489 rfl (Nat.le_of_ble_eq_true rfl) (Nat.le_of_ble_eq_true rfl) (Nat.le_of_ble_eq_true rfl) (Nat.le_of_ble_eq_true rfl) ?_
  refine x_if_ne (M := M_X12_find) (tgt := 117) dX12_find_111 (by decide) (fun q => absurd q (by decide +kernel)) (fun _ => ?_)
  refine x_goto (M := M_X12_find) (tgt := 354) dX12_find_114 (by decide) ?_
  refine x_iinc (M := M_X12_find) dX12_find_354 rfl (Nat.le_of_ble_eq_true rfl) rfl ?_
  refine x_lvs (M := M_X12_find) (lv' := [some (.ref 277), some (.int a0), some (.int a1), some (.int a2), some (.int a3), some (.int a4), some (.int (Int32.ofInt 1)), some (.int (Int32.ofInt 11)), none, none, none]) (by rw [(by decide +kernel : (Int32.ofInt 10) + Int32.ofInt 1 = (Int32.ofInt 11))] <;> rfl) ?_
  refine x_goto (M := M_X12_find) (tgt := 98) dX12_find_357 (by decide) ?_
  refine x_iload (M := M_X12_find) dX12_find_98 rfl ?_
  refine x_bipush (M := M_X12_find) dX12_find_100 ?_
  refine x_icmp_ge (M := M_X12_find) (tgt := 360) dX12_find_102 (by decide) (fun q => absurd q (by decide +kernel)) (fun _ => ?_)
  refine x_aload_n (M := M_X12_find) dX12_find_105 rfl ?_
  refine x_iload (M := M_X12_find) dX12_find_106 rfl ?_
  refine x_callVR (M := M_X12_find) (M' := M_X12_box) rfl rfl dX12_find_108 m_X12_box t_3124 t_3126 s_210 (q5691 hl w6489 o6492) rfl rfl w6489 rfl (Nat.le_of_ble_eq_true rfl) (Nat.le_of_ble_eq_true rfl) (Nat.le_of_ble_eq_true rfl) (Nat.le_of_ble_eq_true rfl) ?_
  refine x_if_ne (M := M_X12_find) (tgt := 117) dX12_find_111 (by decide) (fun q => absurd q (by decide +kernel)) (fun _ => ?_)
  refine x_goto (M := M_X12_find) (tgt := 354) dX12_find_114 (by decide) ?_
  refine x_iinc (M := M_X12_find) dX12_find_354 rfl (Nat.le_of_ble_eq_true rfl) rfl ?_
  refine x_lvs (M := M_X12_find) (lv' := [some (.ref 277), some (.int a0), some (.int a1), some (.int a2), some (.int a3), some (.int a4), some (.int (Int32.ofInt 1)), some (.int (Int32.ofInt 12)), none, none, none]) (by rw [(by decide +kernel : (Int32.ofInt 11) + Int32.ofInt 1 = (Int32.ofInt 12))] <;> rfl) ?_
  refine x_goto (M := M_X12_find) (tgt := 98) dX12_find_357 (by decide) ?_
  refine x_iload (M := M_X12_find) dX12_find_98 rfl ?_
  refine x_bipush (M := M_X12_find) dX12_find_100 ?_
  refine x_icmp_ge (M := M_X12_find) (tgt := 360) dX12_find_102 (by decide) (fun q => absurd q (by decide +kernel)) (fun _ => ?_)
  refine x_aload_n (M := M_X12_find) dX12_find_105 rfl ?_
  refine x_iload (M := M_X12_find) dX12_find_106 rfl ?_
  refine x_callVR (M := M_X12_find) (M' := M_X12_box) rfl rfl dX12_find_108 m_X12_box t_3124 t_3126 s_210 (q5694 hl w6489 o6492) rfl rfl w6489 rfl (Nat.le_of_ble_eq_true rfl) (Nat.le_of_ble_eq_true rfl) (Nat.le_of_ble_eq_true rfl) (Nat.le_of_ble_eq_true rfl) ?_
  refine x_if_ne (M := M_X12_find) (tgt := 117) dX12_find_111 (by decide) (fun q => absurd q (by decide +kernel)) (fun _ => ?_)
  refine x_goto (M := M_X12_find) (tgt := 354) dX12_find_114 (by decide) ?_
  refine x_iinc (M := M_X12_find) dX12_find_354 rfl (Nat.le_of_ble_eq_true rfl) rfl ?_
  refine x_lvs (M := M_X12_find) (lv' := [some (.ref 277), some (.int a0), some (.int a1), some (.int a2), some (.int a3), some (.int a4), some (.int (Int32.ofInt 1)), some (.int (Int32.ofInt 13)), none, none, none]) (by rw [(by decide +kernel : (Int32.ofInt 12) + Int32.ofInt 1 = (Int32.ofInt 13))] <;> rfl) ?_
  refine x_goto (M := M_X12_find) (tgt := 98) dX12_find_357 (by decide) ?_
  refine x_iload (M := M_X12_find) dX12_find_98 rfl ?_
  refine x_bipush (M := M_X12_find) dX12_find_100 ?_
  refine x_icmp_ge (M := M_X12_find) (tgt := 360) dX12_find_102 (by decide) (fun q => absurd q (by decide +kernel)) (fun _ => ?_)
  refine x_aload_n (M := M_X12_find) dX12_find_105 rfl ?_
  refine x_iload (M := M_X12_find) dX12_find_106 rfl ?_
  refine x_callVR (M := M_X12_find) (M' := M_X12_box) rfl rfl dX12_find_108 m_X12_box t_3124 t_3126 s_210 (q5697 hl w6489 o6492) rfl rfl w6489 rfl (Nat.le_of_ble_eq_true rfl) (Nat.le_of_ble_eq_true rfl) (Nat.le_of_ble_eq_true rfl) (Nat.le_of_ble_eq_true rfl) ?_
  refine x_if_ne (M := M_X12_find) (tgt := 117) dX12_find_111 (by decide) (fun q => absurd q (by decide +kernel)) (fun _ => ?_)
  refine x_goto (M := M_X12_find) (tgt := 354) dX12_find_114 (by decide) ?_
  refine x_iinc (M := M_X12_find) dX12_find_354 rfl (Nat.le_of_ble_eq_true rfl) rfl ?_
  refine x_lvs (M := M_X12_find) (lv' := [some (.ref 277), some (.int a0), some (.int a1), some (.int a2), some (.int a3), some (.int a4), some (.int (Int32.ofInt 1)), some (.int (Int32.ofInt 14)), none, none, none]) (by rw [(by decide +kernel : (Int32.ofInt 13) + Int32.ofInt 1 = (Int32.ofInt 14))] <;> rfl) ?_
  refine x_goto (M := M_X12_find) (tgt := 98) dX12_find_357 (by decide) ?_
  refine x_iload (M := M_X12_find) dX12_find_98 rfl ?_
  refine x_bipush (M := M_X12_find) dX12_find_100 ?_
  refine x_icmp_ge (M := M_X12_find) (tgt := 360) dX12_find_102 (by decide) (fun q => absurd q (by decide +kernel)) (fun _ => ?_)
  refine x_aload_n (M := M_X12_find) dX12_find_105 rfl ?_
  refine x_iload (M := M_X12_find) dX12_find_106 rfl ?_
  refine x_callVR (M := M_X12_find) (M' := M_X12_box) rfl rfl dX12_find_108 m_X12_box t_3124 t_3126 s_210 (q5700 hl w6489 o6492) rfl rfl w6489 rfl (Nat.le_of_ble_eq_true rfl) (Nat.le_of_ble_eq_true rfl) (Nat.le_of_ble_eq_true rfl) (Nat.le_of_ble_eq_true rfl) ?_
  refine x_if_ne (M := M_X12_find) (tgt := 117) dX12_find_111 (by decide) (fun q => absurd q (by decide +kernel)) (fun _ => ?_)
  refine x_goto (M := M_X12_find) (tgt := 354) dX12_find_114 (by decide) ?_
  refine x_iinc (M := M_X12_find) dX12_find_354 rfl (Nat.le_of_ble_eq_true rfl) rfl ?_
  refine x_lvs (M := M_X12_find) (lv' := [some (.ref 277), some (.int a0), some (.int a1), some (.int a2), some (.int a3), some (.int a4), some (.int (Int32.ofInt 1)), some (.int (Int32.ofInt 15)), none, none, none]) (by rw [(by decide +kernel : (Int32.ofInt 14) + Int32.ofInt 1 = (Int32.ofInt 15))] <;> rfl) ?_
  refine x_goto (M := M_X12_find) (tgt := 98) dX12_find_357 (by decide) ?_
  refine x_iload (M := M_X12_find) dX12_find_98 rfl ?_
  refine x_bipush (M := M_X12_find) dX12_find_100 ?_
  refine x_icmp_ge (M := M_X12_find) (tgt := 360) dX12_find_102 (by decide) (fun q => absurd q (by decide +kernel)) (fun _ => ?_)
  refine x_aload_n (M := M_X12_find) dX12_find_105 rfl ?_
  refine x_iload (M := M_X12_find) dX12_find_106 rfl ?_
  refine x_callVR (M := M_X12_find) (M' := M_X12_box) rfl rfl dX12_find_108 m_X12_box t_3124 t_3126 s_210 (q5703 hl w6489 o6492) rfl rfl w6489 rfl (Nat.le_of_ble_eq_true rfl) (Nat.le_of_ble_eq_true rfl) (Nat.le_of_ble_eq_true rfl) (Nat.le_of_ble_eq_true rfl) ?_
  refine x_if_ne (M := M_X12_find) (tgt := 117) dX12_find_111 (by decide) (fun q => absurd q (by decide +kernel)) (fun _ => ?_)
  refine x_goto (M := M_X12_find) (tgt := 354) dX12_find_114 (by decide) ?_
  refine x_iinc (M := M_X12_find) dX12_find_354 rfl (Nat.le_of_ble_eq_true rfl) rfl ?_
  refine x_lvs (M := M_X12_find) (lv' := [some (.ref 277), some (.int a0), some (.int a1), some (.int a2), some (.int a3), some (.int a4), some (.int (Int32.ofInt 1)), some (.int (Int32.ofInt 16)), none, none, none]) (by rw [(by decide +kernel : (Int32.ofInt 15) + Int32.ofInt 1 = (Int32.ofInt 16))] <;> rfl) ?_
  refine x_goto (M := M_X12_find) (tgt := 98) dX12_find_357 (by decide) ?_
  refine x_iload (M := M_X12_find) dX12_find_98 rfl ?_
  refine x_bipush (M := M_X12_find) dX12_find_100 ?_
  refine x_icmp_ge (M := M_X12_find) (tgt := 360) dX12_find_102 (by decide) (fun q => absurd q (by decide +kernel)) (fun _ => ?_)
  refine x_aload_n (M := M_X12_find) dX12_find_105 rfl ?_
  refine x_iload (M := M_X12_find) dX12_find_106 rfl ?_
  refine x_callVR (M := M_X12_find) (M' := M_X12_box) rfl rfl dX12_find_108 m_X12_box t_3124 t_3126 s_210 (q5706 hl w6489 o6492) rfl rfl w6489 rfl (Nat.le_of_ble_eq_true rfl) (Nat.le_of_ble_eq_true rfl) (Nat.le_of_ble_eq_true rfl) (Nat.le_of_ble_eq_true rfl) ?_
  refine x_if_ne (M := M_X12_find) (tgt := 117) dX12_find_111 (by decide) (fun q => absurd q (by decide +kernel)) (fun _ => ?_)
  refine x_goto (M := M_X12_find) (tgt := 354) dX12_find_114 (by decide) ?_
  refine x_iinc (M := M_X12_find) dX12_find_354 rfl (Nat.le_of_ble_eq_true rfl) rfl ?_
  refine x_lvs (M := M_X12_find) (lv' := [some (.ref 277), some (.int a0), some (.int a1), some (.int a2), some (.int a3), some (.int a4), some (.int (Int32.ofInt 1)), some (.int (Int32.ofInt 17)), none, none, none]) (by rw [(by decide +kernel : (Int32.ofInt 16) + Int32.ofInt 1 = (Int32.ofInt 17))] <;> rfl) ?_
  refine x_goto (M := M_X12_find) (tgt := 98) dX12_find_357 (by decide) ?_
  refine x_iload (M := M_X12_find) dX12_find_98 rfl ?_
  refine x_bipush (M := M_X12_find) dX12_find_100 ?_
  refine x_icmp_ge (M := M_X12_find) (tgt := 360) dX12_find_102 (by decide) (fun q => absurd q (by decide +kernel)) (fun _ => ?_)
  refine x_aload_n (M := M_X12_find) dX12_find_105 rfl ?_
  refine x_iload (M := M_X12_find) dX12_find_106 rfl ?_
  refine x_callVR (M := M_X12_find) (M' := M_X12_box) rfl rfl dX12_find_108 m_X12_box t_3124 t_3126 s_210 (q5709 hl w6489 o6492) rfl rfl w6489 rfl (Nat.le_of_ble_eq_true rfl) (Nat.le_of_ble_eq_true rfl) (Nat.le_of_ble_eq_true rfl) (Nat.le_of_ble_eq_true rfl) ?_
  refine x_if_ne (M := M_X12_find) (tgt := 117) dX12_find_111 (by decide) (fun q => absurd q (by decide +kernel)) (fun _ => ?_)
  refine x_goto (M := M_X12_find) (tgt := 354) dX12_find_114 (by decide) ?_
  refine x_iinc (M := M_X12_find) dX12_find_354 rfl (Nat.le_of_ble_eq_true rfl) rfl ?_
  refine x_lvs (M := M_X12_find) (lv' := [some (.ref 277), some (.int a0), some (.int a1), some (.int a2), some (.int a3), some (.int a4), some (.int (Int32.ofInt 1)), some (.int (Int32.ofInt 18)), none, none, none]) (by rw [(by decide +kernel : (Int32.ofInt 17) + Int32.ofInt 1 = (Int32.ofInt 18))] <;> rfl) ?_
  refine x_goto (M := M_X12_find) (tgt := 98) dX12_find_357 (by decide) ?_
  refine x_iload (M := M_X12_find) dX12_find_98 rfl ?_
  refine x_bipush (M := M_X12_find) dX12_find_100 ?_
  refine x_icmp_ge (M := M_X12_find) (tgt := 360) dX12_find_102 (by decide) (fun q => absurd q (by decide +kernel)) (fun _ => ?_)
  refine x_aload_n (M := M_X12_find) dX12_find_105 rfl ?_
  refine x_iload (M := M_X12_find) dX12_find_106 rfl ?_
  refine x_callVR (M := M_X12_find) (M' := M_X12_box) rfl rfl dX12_find_108 m_X12_box t_3124 t_3126 s_210 (q5712 hl w6489 o6492) rfl rfl w6489 rfl (Nat.le_of_ble_eq_true rfl) (Nat.le_of_ble_eq_true rfl) (Nat.le_of_ble_eq_true rfl) (Nat.le_of_ble_eq_true rfl) ?_
  refine x_if_ne (M := M_X12_find) (tgt := 117) dX12_find_111 (by decide) (fun q => absurd q (by decide +kernel)) (fun _ => ?_)
  refine x_goto (M := M_X12_find) (tgt := 354) dX12_find_114 (by decide) ?_
  refine x_iinc (M := M_X12_find) dX12_find_354 rfl (Nat.le_of_ble_eq_true rfl) rfl ?_
  refine x_lvs (M := M_X12_find) (lv' := [some (.ref 277), some (.int a0), some (.int a1), some (.int a2), some (.int a3), some (.int a4), some (.int (Int32.ofInt 1)), some (.int (Int32.ofInt 19)), none, none, none]) (by rw [(by decide +kernel : (Int32.ofInt 18) + Int32.ofInt 1 = (Int32.ofInt 19))] <;> rfl) ?_
  refine x_goto (M := M_X12_find) (tgt := 98) dX12_find_357 (by decide) ?_
  refine x_iload (M := M_X12_find) dX12_find_98 rfl ?_
  refine x_bipush (M := M_X12_find) dX12_find_100 ?_
  refine x_icmp_ge (M := M_X12_find) (tgt := 360) dX12_find_102 (by decide) (fun q => absurd q (by decide +kernel)) (fun _ => ?_)
  refine x_aload_n (M := M_X12_find) dX12_find_105 rfl ?_
  refine x_iload (M := M_X12_find) dX12_find_106 rfl ?_
  refine x_callVR (M := M_X12_find) (M' := M_X12_box) rfl rfl dX12_find_108 m_X12_box t_3124 t_3126 s_210 (q5715 hl w6489 o6492) rfl rfl w6489 rfl (Nat.le_of_ble_eq_true rfl) (Nat.le_of_ble_eq_true rfl) (Nat.le_of_ble_eq_true rfl) (Nat.le_of_ble_eq_true rfl) ?_
  refine x_if_ne (M := M_X12_find) (tgt := 117) dX12_find_111 (by decide) (fun q => absurd q (by decide +kernel)) (fun _ => ?_)
  refine x_goto (M := M_X12_find) (tgt := 354) dX12_find_114 (by decide) ?_
  refine x_iinc (M := M_X12_find) dX12_find_354 rfl (Nat.le_of_ble_eq_true rfl) rfl ?_
  refine x_lvs (M := M_X12_find) (lv' := [some (.ref 277), some (.int a0), some (.int a1), some (.int a2), some (.int a3), some (.int a4), some (.int (Int32.ofInt 1)), some (.int (Int32.ofInt 20)), none, none, none]) (by rw [(by decide +kernel : (Int32.ofInt 19) + Int32.ofInt 1 = (Int32.ofInt 20))] <;> rfl) ?_
  refine x_goto (M := M_X12_find) (tgt := 98) dX12_find_357 (by decide) ?_
  refine x_iload (M := M_X12_find) dX12_find_98 rfl ?_
  refine x_bipush (M := M_X12_find) dX12_find_100 ?_
  refine x_icmp_ge (M := M_X12_find) (tgt := 360) dX12_find_102 (by decide) (fun q => absurd q (by decide +kernel)) (fun _ => ?_)
  refine x_aload_n (M := M_X12_find) dX12_find_105 rfl ?_
  refine x_iload (M := M_X12_find) dX12_find_106 rfl ?_
  refine x_callVR (M := M_X12_find) (M' := M_X12_box) rfl rfl dX12_find_108 m_X12_box t_3124 t_3126 s_210 (q5718 hl w6489 o6492) rfl rfl w6489 rfl (Nat.le_of_ble_eq_true rfl) (Nat.le_of_ble_eq_true rfl) (Nat.le_of_ble_eq_true rfl) (Nat.le_of_ble_eq_true rfl) ?_
  refine x_if_ne (M := M_X12_find) (tgt := 117) dX12_find_111 (by decide) (fun q => absurd q (by decide +kernel)) (fun _ => ?_)
  refine x_goto (M := M_X12_find) (tgt := 354) dX12_find_114 (by decide) ?_
  refine x_iinc (M := M_X12_find) dX12_find_354 rfl (Nat.le_of_ble_eq_true rfl) rfl ?_
  refine x_lvs (M := M_X12_find) (lv' := [some (.ref 277), some (.int a0), some (.int a1), some (.int a2), some (.int a3), some (.int a4), some (.int (Int32.ofInt 1)), some (.int (Int32.ofInt 21)), none, none, none]) (by rw [(by decide +kernel : (Int32.ofInt 20) + Int32.ofInt 1 = (Int32.ofInt 21))] <;> rfl) ?_
  refine x_goto (M := M_X12_find) (tgt := 98) dX12_find_357 (by decide) ?_
  refine x_iload (M := M_X12_find) dX12_find_98 rfl ?_
  refine x_bipush (M := M_X12_find) dX12_find_100 ?_
  refine x_icmp_ge (M := M_X12_find) (tgt := 360) dX12_find_102 (by decide) (fun q => absurd q (by decide +kernel)) (fun _ => ?_)
  refine x_aload_n (M := M_X12_find) dX12_find_105 rfl ?_
  refine x_iload (M := M_X12_find) dX12_find_106 rfl ?_
  refine x_callVR (M := M_X12_find) (M' := M_X12_box) rfl rfl dX12_find_108 m_X12_box t_3124 t_3126 s_210 (q5721 hl w6489 o6492) rfl rfl w6489 rfl (Nat.le_of_ble_eq_true rfl) (Nat.le_of_ble_eq_true rfl) (Nat.le_of_ble_eq_true rfl) (Nat.le_of_ble_eq_true rfl) ?_
  refine x_if_ne (M := M_X12_find) (tgt := 117) dX12_find_111 (by decide) (fun q => absurd q (by decide +kernel)) (fun _ => ?_)
  refine x_goto (M := M_X12_find) (tgt := 354) dX12_find_114 (by decide) ?_
  refine x_iinc (M := M_X12_find) dX12_find_354 rfl (Nat.le_of_ble_eq_true rfl) rfl ?_
  refine x_lvs (M := M_X12_find) (lv' := [some (.ref 277), some (.int a0), some (.int a1), some (.int a2), some (.int a3), some (.int a4), some (.int (Int32.ofInt 1)), some (.int (Int32.ofInt 22)), none, none, none]) (by rw [(by decide +kernel : (Int32.ofInt 21) + Int32.ofInt 1 = (Int32.ofInt 22))] <;> rfl) ?_
  refine x_goto (M := M_X12_find) (tgt := 98) dX12_find_357 (by decide) ?_
  refine x_iload (M := M_X12_find) dX12_find_98 rfl ?_
  refine x_bipush (M := M_X12_find) dX12_find_100 ?_
  refine x_icmp_ge (M := M_X12_find) (tgt := 360) dX12_find_102 (by decide) (fun q => absurd q (by decide +kernel)) (fun _ => ?_)
  refine x_aload_n (M := M_X12_find) dX12_find_105 rfl ?_
  refine x_iload (M := M_X12_find) dX12_find_106 rfl ?_
  refine x_callVR (M := M_X12_find) (M' := M_X12_box) rfl rfl dX12_find_108 m_X12_box t_3124 t_3126 s_210 (q5724 hl w6489 o6492) rfl rfl w6489 rfl (Nat.le_of_ble_eq_true rfl) (Nat.le_of_ble_eq_true rfl) (Nat.le_of_ble_eq_true rfl) (Nat.le_of_ble_eq_true rfl) ?_
  refine x_if_ne (M := M_X12_find) (tgt := 117) dX12_find_111 (by decide) (fun q => absurd q (by decide +kernel)) (fun _ => ?_)
  refine x_goto (M := M_X12_find) (tgt := 354) dX12_find_114 (by decide) ?_
  refine x_iinc (M := M_X12_find) dX12_find_354 rfl (Nat.le_of_ble_eq_true rfl) rfl ?_
  refine x_lvs (M := M_X12_find) (lv' := [some (.ref 277), some (.int a0), some (.int a1), some (.int a2), some (.int a3), some (.int a4), some (.int (Int32.ofInt 1)), some (.int (Int32.ofInt 23)), none, none, none]) (by rw [(by decide +kernel : (Int32.ofInt 22) + Int32.ofInt 1 = (Int32.ofInt 23))] <;> rfl) ?_
  refine x_goto (M := M_X12_find) (tgt := 98) dX12_find_357 (by decide) ?_
  refine x_iload (M := M_X12_find) dX12_find_98 rfl ?_
  refine x_bipush (M := M_X12_find) dX12_find_100 ?_
  refine x_icmp_ge (M := M_X12_find) (tgt := 360) dX12_find_102 (by decide) (fun q => absurd q (by decide +kernel)) (fun _ => ?_)
  refine x_aload_n (M := M_X12_find) dX12_find_105 rfl ?_
  refine x_iload (M := M_X12_find) dX12_find_106 rfl ?_
  refine x_callVR (M := M_X12_find) (M' := M_X12_box) rfl rfl dX12_find_108 m_X12_box t_3124 t_3126 s_210 (q5727 hl w6489 o6492) rfl rfl w6489 rfl (Nat.le_of_ble_eq_true rfl) (Nat.le_of_ble_eq_true rfl) (Nat.le_of_ble_eq_true rfl) (Nat.le_of_ble_eq_true rfl) ?_
  refine x_if_ne (M := M_X12_find) (tgt := 117) dX12_find_111 (by decide) (fun q => absurd q (by decide +kernel)) (fun _ => ?_)
  refine x_goto (M := M_X12_find) (tgt := 354) dX12_find_114 (by decide) ?_
  refine x_iinc (M := M_X12_find) dX12_find_354 rfl (Nat.le_of_ble_eq_true rfl) rfl ?_
  refine x_lvs (M := M_X12_find) (lv' := [some (.ref 277), some (.int a0), some (.int a1), some (.int a2), some (.int a3), some (.int a4), some (.int (Int32.ofInt 1)), some (.int (Int32.ofInt 24)), none, none, none]) (by rw [(by decide +kernel : (Int32.ofInt 23) + Int32.ofInt 1 = (Int32.ofInt 24))] <;> rfl) ?_
  refine x_goto (M := M_X12_find) (tgt := 98) dX12_find_357 (by decide) ?_
  refine x_iload (M := M_X12_find) dX12_find_98 rfl ?_
  refine x_bipush (M := M_X12_find) dX12_find_100 ?_
  refine x_icmp_ge (M := M_X12_find) (tgt := 360) dX12_find_102 (by decide) (fun q => absurd q (by decide +kernel)) (fun _ => ?_)
  refine x_aload_n (M := M_X12_find) dX12_find_105 rfl ?_
  refine x_iload (M := M_X12_find) dX12_find_106 rfl ?_
  refine x_callVR (M := M_X12_find) (M' := M_X12_box) rfl rfl dX12_find_108 m_X12_box t_3124 t_3126 s_210 (q5730 hl w6489 o6492) rfl rfl w6489 rfl (Nat.le_of_ble_eq_true rfl) (Nat.le_of_ble_eq_true rfl) (Nat.le_of_ble_eq_true rfl) (Nat.le_of_ble_eq_true rfl) ?_
  refine x_if_ne (M := M_X12_find) (tgt := 117) dX12_find_111 (by decide) (fun q => absurd q (by decide +kernel)) (fun _ => ?_)
  refine x_goto (M := M_X12_find) (tgt := 354) dX12_find_114 (by decide) ?_
  refine x_iinc (M := M_X12_find) dX12_find_354 rfl (Nat.le_of_ble_eq_true rfl) rfl ?_
  refine x_lvs (M := M_X12_find) (lv' := [some (.ref 277), some (.int a0), some (.int a1), some (.int a2), some (.int a3), some (.int a4), some (.int (Int32.ofInt 1)), some (.int (Int32.ofInt 25)), none, none, none]) (by rw [(by decide +kernel : (Int32.ofInt 24) + Int32.ofInt 1 = (Int32.ofInt 25))] <;> rfl) ?_
  refine x_goto (M := M_X12_find) (tgt := 98) dX12_find_357 (by decide) ?_
  refine x_iload (M := M_X12_find) dX12_find_98 rfl ?_
  refine x_bipush (M := M_X12_find) dX12_find_100 ?_
  refine x_icmp_ge (M := M_X12_find) (tgt := 360) dX12_find_102 (by decide) (fun q => absurd q (by decide +kernel)) (fun _ => ?_)
  refine x_aload_n (M := M_X12_find) dX12_find_105 rfl ?_
  refine x_iload (M := M_X12_find) dX12_find_106 rfl ?_
  refine x_callVR (M := M_X12_find) (M' := M_X12_box) rfl rfl dX12_find_108 m_X12_box t_3124 t_3126 s_210 (q5733 hl w6489 o6492) rfl rfl w6489 rfl (Nat.le_of_ble_eq_true rfl) (Nat.le_of_ble_eq_true rfl) (Nat.le_of_ble_eq_true rfl) (Nat.le_of_ble_eq_true rfl) ?_
  refine x_if_ne (M := M_X12_find) (tgt := 117) dX12_find_111 (by decide) (fun q => absurd q (by decide +kernel)) (fun _ => ?_)
  refine x_goto (M := M_X12_find) (tgt := 354) dX12_find_114 (by decide) ?_
  refine x_iinc (M := M_X12_find) dX12_find_354 rfl (Nat.le_of_ble_eq_true rfl) rfl ?_
  refine x_lvs (M := M_X12_find) (lv' := [some (.ref 277), some (.int a0), some (.int a1), some (.int a2), some (.int a3), some (.int a4), some (.int (Int32.ofInt 1)), some (.int (Int32.ofInt 26)), none, none, none]) (by rw [(by decide +kernel : (Int32.ofInt 25) + Int32.ofInt 1 = (Int32.ofInt 26))] <;> rfl) ?_
  refine x_goto (M := M_X12_find) (tgt := 98) dX12_find_357 (by decide) ?_
  refine x_iload (M := M_X12_find) dX12_find_98 rfl ?_
  refine x_bipush (M := M_X12_find) dX12_find_100 ?_
  refine x_icmp_ge (M := M_X12_find) (tgt := 360) dX12_find_102 (by decide) (fun q => absurd q (by decide +kernel)) (fun _ => ?_)
  refine x_aload_n (M := M_X12_find) dX12_find_105 rfl ?_
  refine x_iload (M := M_X12_find) dX12_find_106 rfl ?_
  refine x_callVR (M := M_X12_find) (M' := M_X12_box) rfl rfl dX12_find_108 m_X12_box t_3124 t_3126 s_210 (q5736 hl w6489 o6492) rfl rfl w6489 rfl (Nat.le_of_ble_eq_true rfl) (Nat.le_of_ble_eq_true rfl) (Nat.le_of_ble_eq_true rfl) (Nat.le_of_ble_eq_true rfl) ?_
  refine x_if_ne (M := M_X12_find) (tgt := 117) dX12_find_111 (by decide) (fun q => absurd q (by decide +kernel)) (fun _ => ?_)
  refine x_goto (M := M_X12_find) (tgt := 354) dX12_find_114 (by decide) ?_
  refine x_iinc (M := M_X12_find) dX12_find_354 rfl (Nat.le_of_ble_eq_true rfl) rfl ?_
  refine x_lvs (M := M_X12_find) (lv' := [some (.ref 277), some (.int a0), some (.int a1), some (.int a2), some (.int a3), some (.int a4), some (.int (Int32.ofInt 1)), some (.int (Int32.ofInt 27)), none, none, none]) (by rw [(by decide +kernel : (Int32.ofInt 26) + Int32.ofInt 1 = (Int32.ofInt 27))] <;> rfl) ?_
  refine x_goto (M := M_X12_find) (tgt := 98) dX12_find_357 (by decide) ?_
  refine x_iload (M := M_X12_find) dX12_find_98 rfl ?_
  refine x_bipush (M := M_X12_find) dX12_find_100 ?_
  refine x_icmp_ge (M := M_X12_find) (tgt := 360) dX12_find_102 (by decide) (fun q => absurd q (by decide +kernel)) (fun _ => ?_)
  refine x_aload_n (M := M_X12_find) dX12_find_105 rfl ?_
  refine x_iload (M := M_X12_find) dX12_find_106 rfl ?_
  refine x_callVR (M := M_X12_find) (M' := M_X12_box) rfl rfl dX12_find_108 m_X12_box t_3124 t_3126 s_210 (q5739 hl w6489 o6492) rfl rfl w6489 rfl (Nat.le_of_ble_eq_true rfl) (Nat.le_of_ble_eq_true rfl) (Nat.le_of_ble_eq_true rfl) (Nat.le_of_ble_eq_true rfl) ?_
  refine x_if_ne (M := M_X12_find) (tgt := 117) dX12_find_111 (by decide) (fun q => absurd q (by decide +kernel)) (fun _ => ?_)
  refine x_goto (M := M_X12_find) (tgt := 354) dX12_find_114 (by decide) ?_
  refine x_iinc (M := M_X12_find) dX12_find_354 rfl (Nat.le_of_ble_eq_true rfl) rfl ?_
  refine x_lvs (M := M_X12_find) (lv' := [some (.ref 277), some (.int a0), some (.int a1), some (.int a2), some (.int a3), some (.int a4), some (.int (Int32.ofInt 1)), some (.int (Int32.ofInt 28)), none, none, none]) (by rw [(by decide +kernel : (Int32.ofInt 27) + Int32.ofInt 1 = (Int32.ofInt 28))] <;> rfl) ?_
  refine x_goto (M := M_X12_find) (tgt := 98) dX12_find_357 (by decide) ?_
  refine x_iload (M := M_X12_find) dX12_find_98 rfl ?_
  refine x_bipush (M := M_X12_find) dX12_find_100 ?_
  refine x_icmp_ge (M := M_X12_find) (tgt := 360) dX12_find_102 (by decide) (fun q => absurd q (by decide +kernel)) (fun _ => ?_)
  refine x_aload_n (M := M_X12_find) dX12_find_105 rfl ?_
  refine x_iload (M := M_X12_find) dX12_find_106 rfl ?_
  refine x_callVR (M := M_X12_find) (M' := M_X12_box) rfl rfl dX12_find_108 m_X12_box t_3124 t_3126 s_210 (q5742 hl w6489 o6492) rfl rfl w6489 rfl (Nat.le_of_ble_eq_true rfl) (Nat.le_of_ble_eq_true rfl) (Nat.le_of_ble_eq_true rfl) (Nat.le_of_ble_eq_true rfl) ?_
  refine x_if_ne (M := M_X12_find) (tgt := 117) dX12_find_111 (by decide) (fun q => absurd q (by decide +kernel)) (fun _ => ?_)
  refine x_goto (M := M_X12_find) (tgt := 354) dX12_find_114 (by decide) ?_
  refine x_iinc (M := M_X12_find) dX12_find_354 rfl (Nat.le_of_ble_eq_true rfl) rfl ?_
  refine x_lvs (M := M_X12_find) (lv' := [some (.ref 277), some (.int a0), some (.int a1), some (.int a2), some (.int a3), some (.int a4), some (.int (Int32.ofInt 1)), some (.int (Int32.ofInt 29)), none, none, none]) (by rw [(by decide +kernel : (Int32.ofInt 28) + Int32.ofInt 1 = (Int32.ofInt 29))] <;> rfl) ?_
  refine x_goto (M := M_X12_find) (tgt := 98) dX12_find_357 (by decide) ?_
  refine x_iload (M := M_X12_find) dX12_find_98 rfl ?_
  refine x_bipush (M := M_X12_find) dX12_find_100 ?_
  refine x_icmp_ge (M := M_X12_find) (tgt := 360) dX12_find_102 (by decide) (fun q => absurd q (by decide +kernel)) (fun _ => ?_)
  refine x_aload_n (M := M_X12_find) dX12_find_105 rfl ?_
  refine x_iload (M := M_X12_find) dX12_find_106 rfl ?_
  refine x_callVR (M := M_X12_find) (M' := M_X12_box) rfl rfl dX12_find_108 m_X12_box t_3124 t_3126 s_210 (q5745 hl w6489 o6492) rfl rfl w6489 rfl (Nat.le_of_ble_eq_true rfl) (Nat.le_of_ble_eq_true rfl) (Nat.le_of_ble_eq_true rfl) (Nat.le_of_ble_eq_true rfl) ?_
  refine x_if_ne (M := M_X12_find) (tgt := 117) dX12_find_111 (by decide) (fun q => absurd q (by decide +kernel)) (fun _ => ?_)
  refine x_goto (M := M_X12_find) (tgt := 354) dX12_find_114 (by decide) ?_
  refine x_iinc (M := M_X12_find) dX12_find_354 rfl (Nat.le_of_ble_eq_true rfl) rfl ?_
  refine x_lvs (M := M_X12_find) (lv' := [some (.ref 277), some (.int a0), some (.int a1), some (.int a2), some (.int a3), some (.int a4), some (.int (Int32.ofInt 1)), some (.int (Int32.ofInt 30)), none, none, none]) (by rw [(by decide +kernel : (Int32.ofInt 29) + Int32.ofInt 1 = (Int32.ofInt 30))] <;> rfl) ?_
  refine x_goto (M := M_X12_find) (tgt := 98) dX12_find_357 (by decide) ?_
  refine x_iload (M := M_X12_find) dX12_find_98 rfl ?_
  refine x_bipush (M := M_X12_find) dX12_find_100 ?_
  refine x_icmp_ge (M := M_X12_find) (tgt := 360) dX12_find_102 (by decide) (fun q => absurd q (by decide +kernel)) (fun _ => ?_)
  refine x_aload_n (M := M_X12_find) dX12_find_105 rfl ?_
  refine x_iload (M := M_X12_find) dX12_find_106 rfl ?_
  refine x_callVR (M := M_X12_find) (M' := M_X12_box) rfl rfl dX12_find_108 m_X12_box t_3124 t_3126 s_210 (q5748 hl w6489 o6492) rfl rfl w6489 rfl (Nat.le_of_ble_eq_true rfl) (Nat.le_of_ble_eq_true rfl) (Nat.le_of_ble_eq_true rfl) (Nat.le_of_ble_eq_true rfl) ?_
  refine x_if_ne (M := M_X12_find) (tgt := 117) dX12_find_111 (by decide) (fun q => absurd q (by decide +kernel)) (fun _ => ?_)
  refine x_goto (M := M_X12_find) (tgt := 354) dX12_find_114 (by decide) ?_
  refine x_iinc (M := M_X12_find) dX12_find_354 rfl (Nat.le_of_ble_eq_true rfl) rfl ?_
  refine x_lvs (M := M_X12_find) (lv' := [some (.ref 277), some (.int a0), some (.int a1), some (.int a2), some (.int a3), some (.int a4), some (.int (Int32.ofInt 1)), some (.int (Int32.ofInt 31)), none, none, none]) (by rw [(by decide +kernel : (Int32.ofInt 30) + Int32.ofInt 1 = (Int32.ofInt 31))] <;> rfl) ?_
  refine x_goto (M := M_X12_find) (tgt := 98) dX12_find_357 (by decide) ?_
  refine x_iload (M := M_X12_find) dX12_find_98 rfl ?_
  refine x_bipush (M := M_X12_find) dX12_find_100 ?_
  refine x_icmp_ge (M := M_X12_find) (tgt := 360) dX12_find_102 (by decide) (fun q => absurd q (by decide +kernel)) (fun _ => ?_)
  refine x_aload_n (M := M_X12_find) dX12_find_105 rfl ?_
  refine x_iload (M := M_X12_find) dX12_find_106 rfl ?_
  refine x_callVR (M := M_X12_find) (M' := M_X12_box) rfl rfl dX12_find_108 m_X12_box t_3124 t_3126 s_210 (q5751 hl w6489 o6492) rfl rfl w6489 rfl (Nat.le_of_ble_eq_true rfl) (Nat.le_of_ble_eq_true rfl) (Nat.le_of_ble_eq_true rfl) (Nat.le_of_ble_eq_true rfl) ?_
  refine x_if_ne (M := M_X12_find) (tgt := 117) dX12_find_111 (by decide) (fun q => absurd q (by decide +kernel)) (fun _ => ?_)
  refine x_goto (M := M_X12_find) (tgt := 354) dX12_find_114 (by decide) ?_
  refine x_iinc (M := M_X12_find) dX12_find_354 rfl (Nat.le_of_ble_eq_true rfl) rfl ?_
  refine x_lvs (M := M_X12_find) (lv' := [some (.ref 277), some (.int a0), some (.int a1), some (.int a2), some (.int a3), some (.int a4), some (.int (Int32.ofInt 1)), some (.int (Int32.ofInt 32)), none, none, none]) (by rw [(by decide +kernel : (Int32.ofInt 31) + Int32.ofInt 1 = (Int32.ofInt 32))] <;> rfl) ?_
  refine x_goto (M := M_X12_find) (tgt := 98) dX12_find_357 (by decide) ?_
  refine x_iload (M := M_X12_find) dX12_find_98 rfl ?_
  refine x_bipush (M := M_X12_find) dX12_find_100 ?_
  refine x_icmp_ge (M := M_X12_find) (tgt := 360) dX12_find_102 (by decide) (fun _ => ?_) (fun q => absurd q (by decide +kernel))
  refine x_aload_n (M := M_X12_find) dX12_find_360 rfl ?_
  refine x_getf (M := M_X12_find) (ci := 15) (C := RX12) (T := TX12) (N := 135) (ty := tyX12) cl15 dX12_find_361 w6489 16 (by decide) t_2407 (v := .int (Int32.ofInt 0)) rfl ?_
  exact x_iret (M := M_X12_find) dX12_find_364 rfl ⟨rfl, (fr_tr f6490 (by decide) (fr_tr f6485 (by decide) (fr_tr f6479 (by decide) fr_rf))), ⟨w6489, trivial⟩⟩ (Nat.le_of_ble_eq_true rfl) (Nat.le_of_ble_eq_true rfl)
set_option maxRecDepth 10000 in
theorem lc23_20 {l : Launch} {E : EE} (hl : l.stackTraces = false) (nm : String) {xs : Nat → Int32} (hx : E.2.2.2.2 0 = some (7, xs)) {h : HP} {a0 : Int32} {a1 : Int32} {a2 : Int32} {a3 : Int32} {a4 : Int32} {dg : Int32} (e2 : xs 2 = a0) (e3 : xs 3 = a1) (e4 : xs 4 = a2) (e5 : xs 5 = a3) (e6 : xs 6 = a4) (c0 : ¬ (a0.toInt < 0)) (c1 : ¬ (2 < a0.toInt)) (c2 : ¬ (a1.toInt < (-1000000000))) (c3 : ¬ (a2.toInt < (-1000000000))) (c4 : ¬ (1000000000 < a3.toInt)) (c5 : ¬ (1000000000 < a4.toInt)) (c6 : ¬ (a3.toInt < a1.toInt)) (c7 : ¬ (a4.toInt < a2.toInt)) (o6437 : ob h 32 = some (.inr (14, [.ref 33, .ref 162, .ref 166, .int (0 : Int32), .int (0 : Int32), .int (0 : Int32), .ref 167, .ref 170, .ref 173, .ref 177, .ref 193, .ref 208, .ref 222, .ref 238, .ref 252, .ref 274, .ref 275, .ref 276, .int (0 : Int32)]))) (o6438 : ob h 33 = some (.inl (4, 32, .inr (.inr (.inr (.inr (shf 1 32))))))) (o6439 : ob h 34 = some (.inr (9, [.ref 35, .ref 36, .ref 37, .int (0 : Int32), .int (0 : Int32)]))) (o6440 : ob h 38 = some (.inr (9, [.ref 39, .ref 40, .ref 41, .int (0 : Int32), .int (0 : Int32)]))) (o6441 : ob h 42 = some (.inr (9, [.ref 43, .ref 44, .ref 45, .int (0 : Int32), .int (0 : Int32)]))) (o6442 : ob h 46 = some (.inr (9, [.ref 47, .ref 48, .ref 49, .int (0 : Int32), .int (0 : Int32)]))) (o6443 : ob h 50 = some (.inr (9, [.ref 51, .ref 52, .ref 53, .int (0 : Int32), .int (0 : Int32)]))) (o6444 : ob h 54 = some (.inr (9, [.ref 55, .ref 56, .ref 57, .int (0 : Int32), .int (0 : Int32)]))) (o6445 : ob h 58 = some (.inr (9, [.ref 59, .ref 60, .ref 61, .int (0 : Int32), .int (0 : Int32)]))) (o6446 : ob h 62 = some (.inr (9, [.ref 63, .ref 64, .ref 65, .int (0 : Int32), .int (0 : Int32)]))) (o6447 : ob h 66 = some (.inr (9, [.ref 67, .ref 68, .ref 69, .int (0 : Int32), .int (0 : Int32)]))) (o6448 : ob h 70 = some (.inr (9, [.ref 71, .ref 72, .ref 73, .int (0 : Int32), .int (0 : Int32)]))) (o6449 : ob h 74 = some (.inr (9, [.ref 75, .ref 76, .ref 77, .int (0 : Int32), .int (0 : Int32)]))) (o6450 : ob h 78 = some (.inr (9, [.ref 79, .ref 80, .ref 81, .int (0 : Int32), .int (0 : Int32)]))) (o6451 : ob h 82 = some (.inr (9, [.ref 83, .ref 84, .ref 85, .int (0 : Int32), .int (0 : Int32)]))) (o6452 : ob h 86 = some (.inr (9, [.ref 87, .ref 88, .ref 89, .int (0 : Int32), .int (0 : Int32)]))) (o6453 : ob h 90 = some (.inr (9, [.ref 91, .ref 92, .ref 93, .int (0 : Int32), .int (0 : Int32)]))) (o6454 : ob h 94 = some (.inr (9, [.ref 95, .ref 96, .ref 97, .int (0 : Int32), .int (0 : Int32)]))) (o6455 : ob h 98 = some (.inr (9, [.ref 99, .ref 100, .ref 101, .int (0 : Int32), .int (0 : Int32)]))) (o6456 : ob h 102 = some (.inr (9, [.ref 103, .ref 104, .ref 105, .int (0 : Int32), .int (0 : Int32)]))) (o6457 : ob h 106 = some (.inr (9, [.ref 107, .ref 108, .ref 109, .int (0 : Int32), .int (0 : Int32)]))) (o6458 : ob h 110 = some (.inr (9, [.ref 111, .ref 112, .ref 113, .int (0 : Int32), .int (0 : Int32)]))) (o6459 : ob h 114 = some (.inr (9, [.ref 115, .ref 116, .ref 117, .int (0 : Int32), .int (0 : Int32)]))) (o6460 : ob h 118 = some (.inr (9, [.ref 119, .ref 120, .ref 121, .int (0 : Int32), .int (0 : Int32)]))) (o6461 : ob h 122 = some (.inr (9, [.ref 123, .ref 124, .ref 125, .int (0 : Int32), .int (0 : Int32)]))) (o6462 : ob h 126 = some (.inr (9, [.ref 127, .ref 128, .ref 129, .int (0 : Int32), .int (0 : Int32)]))) (o6463 : ob h 130 = some (.inr (9, [.ref 131, .ref 132, .ref 133, .int (0 : Int32), .int (0 : Int32)]))) (o6464 : ob h 134 = some (.inr (9, [.ref 135, .ref 136, .ref 137, .int (0 : Int32), .int (0 : Int32)]))) (o6465 : ob h 138 = some (.inr (9, [.ref 139, .ref 140, .ref 141, .int (0 : Int32), .int (0 : Int32)]))) (o6466 : ob h 142 = some (.inr (9, [.ref 143, .ref 144, .ref 145, .int (0 : Int32), .int (0 : Int32)]))) (o6467 : ob h 146 = some (.inr (9, [.ref 147, .ref 148, .ref 149, .int (0 : Int32), .int (0 : Int32)]))) (o6468 : ob h 150 = some (.inr (9, [.ref 151, .ref 152, .ref 153, .int (0 : Int32), .int (0 : Int32)]))) (o6469 : ob h 154 = some (.inr (9, [.ref 155, .ref 156, .ref 157, .int (0 : Int32), .int (0 : Int32)]))) (o6470 : ob h 158 = some (.inr (9, [.ref 159, .ref 160, .ref 161, .int (0 : Int32), .int (0 : Int32)]))) (o6471 : ob h 359 = some (.inl (1, 1, .inr (.inl (fun _ => 0))))) (o6494 : ob h 277 = some (.inr (15, (RB dg)))) (o6496 : ob h 282 = some (.inl (0, 33, .inl (fun _ => 0)))) : XX l E (M_law nm) 1312 342628 8074320 (fun o _ => o = .inl (some (.int 1))) 1697 [some (.ref 0), some (.ref 32), some (.ref 277), some (.ref 359), some (.int (Int32.ofInt 1)), none, none, none] [] h 328 2463747 := by
  refine x_aload_n (M := (M_law nm)) dL_law_1697 rfl ?_
  refine x_aload_n (M := (M_law nm)) dL_law_1698 rfl ?_
  refine x_iload (M := (M_law nm)) dL_law_1699 rfl ?_
  refine x_iconst (M := (M_law nm)) dL_law_1701 ?_
  refine x_iadd (M := (M_law nm)) dL_law_1702 ?_
  refine x_sald (M := (M_law nm)) dL_law_1703 (by decide) hx (vp_inD (by decide +kernel)) ?_
  refine x_top (M := (M_law nm)) (y := a0) ((congrArg xs (by decide +kernel : ((Int32.ofInt 1) + (Int32.ofInt 1)).toNatClampNeg = 2)).trans e2) ?_
  refine x_aload_n (M := (M_law nm)) dL_law_1704 rfl ?_
  refine x_iload (M := (M_law nm)) dL_law_1705 rfl ?_
  refine x_iconst (M := (M_law nm)) dL_law_1707 ?_
  refine x_iadd (M := (M_law nm)) dL_law_1708 ?_
  refine x_sald (M := (M_law nm)) dL_law_1709 (by decide) hx (vp_inD (by decide +kernel)) ?_
  refine x_top (M := (M_law nm)) (y := a1) ((congrArg xs (by decide +kernel : ((Int32.ofInt 1) + (Int32.ofInt 2)).toNatClampNeg = 3)).trans e3) ?_
  refine x_aload_n (M := (M_law nm)) dL_law_1710 rfl ?_
  refine x_iload (M := (M_law nm)) dL_law_1711 rfl ?_
  refine x_iconst (M := (M_law nm)) dL_law_1713 ?_
  refine x_iadd (M := (M_law nm)) dL_law_1714 ?_
  refine x_sald (M := (M_law nm)) dL_law_1715 (by decide) hx (vp_inD (by decide +kernel)) ?_
  refine x_top (M := (M_law nm)) (y := a2) ((congrArg xs (by decide +kernel : ((Int32.ofInt 1) + (Int32.ofInt 3)).toNatClampNeg = 4)).trans e4) ?_
  refine x_aload_n (M := (M_law nm)) dL_law_1716 rfl ?_
  refine x_iload (M := (M_law nm)) dL_law_1717 rfl ?_
  refine x_iconst (M := (M_law nm)) dL_law_1719 ?_
  refine x_iadd (M := (M_law nm)) dL_law_1720 ?_
  refine x_sald (M := (M_law nm)) dL_law_1721 (by decide) hx (vp_inD (by decide +kernel)) ?_
  refine x_top (M := (M_law nm)) (y := a3) ((congrArg xs (by decide +kernel : ((Int32.ofInt 1) + (Int32.ofInt 4)).toNatClampNeg = 5)).trans e5) ?_
  refine x_aload_n (M := (M_law nm)) dL_law_1722 rfl ?_
  refine x_iload (M := (M_law nm)) dL_law_1723 rfl ?_
  refine x_iconst (M := (M_law nm)) dL_law_1725 ?_
  refine x_iadd (M := (M_law nm)) dL_law_1726 ?_
  refine x_sald (M := (M_law nm)) dL_law_1727 (by decide) hx (vp_inD (by decide +kernel)) ?_
  refine x_top (M := (M_law nm)) (y := a4) ((congrArg xs (by decide +kernel : ((Int32.ofInt 1) + (Int32.ofInt 5)).toNatClampNeg = 6)).trans e6) ?_
  refine x_aload_n (M := (M_law nm)) dL_law_1728 rfl ?_
  refine y_callSW (M := (M_law nm)) (M' := M_L_find) rfl rfl dL_law_1729 m_L_find t_2242 t_2243 (q6436 hl c0 c1 c2 c3 c4 c5 c6 c7 o6437 o6438 o6439 o6440 o6441 o6442 o6443 o6444 o6445 o6446 o6447 o6448 o6449 o6450 o6451 o6452 o6453 o6454 o6455 o6456 o6457 o6458 o6459 o6460 o6461 o6462 o6463 o6464 o6465 o6466 o6467 o6468 o6469 o6470 o6471) rfl rfl (Nat.le_of_ble_eq_true rfl) (Nat.le_of_ble_eq_true rfl) (Nat.le_of_ble_eq_true rfl) (Nat.le_of_ble_eq_true rfl) (fun h6472 f6473 w6474 => ?_)
  obtain ⟨o6475, -⟩ := w6474
  refine x_istore (M := (M_law nm)) dL_law_1732 (Nat.le_of_ble_eq_true rfl) rfl ?_
  refine x_aload_n (M := (M_law nm)) dL_law_1734 rfl ?_
  refine x_aload_n (M := (M_law nm)) dL_law_1735 rfl ?_
  refine x_iload (M := (M_law nm)) dL_law_1736 rfl ?_
  refine x_iconst (M := (M_law nm)) dL_law_1738 ?_
  refine x_iadd (M := (M_law nm)) dL_law_1739 ?_
  refine x_sald (M := (M_law nm)) dL_law_1740 (by decide) hx (vp_inD (by decide +kernel)) ?_
  refine x_top (M := (M_law nm)) (y := a0) ((congrArg xs (by decide +kernel : ((Int32.ofInt 1) + (Int32.ofInt 1)).toNatClampNeg = 2)).trans e2) ?_
  refine x_aload_n (M := (M_law nm)) dL_law_1741 rfl ?_
  refine x_iload (M := (M_law nm)) dL_law_1742 rfl ?_
  refine x_iconst (M := (M_law nm)) dL_law_1744 ?_
  refine x_iadd (M := (M_law nm)) dL_law_1745 ?_
  refine x_sald (M := (M_law nm)) dL_law_1746 (by decide) hx (vp_inD (by decide +kernel)) ?_
  refine x_top (M := (M_law nm)) (y := a1) ((congrArg xs (by decide +kernel : ((Int32.ofInt 1) + (Int32.ofInt 2)).toNatClampNeg = 3)).trans e3) ?_
  refine x_aload_n (M := (M_law nm)) dL_law_1747 rfl ?_
  refine x_iload (M := (M_law nm)) dL_law_1748 rfl ?_
  refine x_iconst (M := (M_law nm)) dL_law_1750 ?_
  refine x_iadd (M := (M_law nm)) dL_law_1751 ?_
  refine x_sald (M := (M_law nm)) dL_law_1752 (by decide) hx (vp_inD (by decide +kernel)) ?_
  refine x_top (M := (M_law nm)) (y := a2) ((congrArg xs (by decide +kernel : ((Int32.ofInt 1) + (Int32.ofInt 3)).toNatClampNeg = 4)).trans e4) ?_
  refine x_aload_n (M := (M_law nm)) dL_law_1753 rfl ?_
  refine x_iload (M := (M_law nm)) dL_law_1754 rfl ?_
  refine x_iconst (M := (M_law nm)) dL_law_1756 ?_
  refine x_iadd (M := (M_law nm)) dL_law_1757 ?_
  refine x_sald (M := (M_law nm)) dL_law_1758 (by decide) hx (vp_inD (by decide +kernel)) ?_
  refine x_top (M := (M_law nm)) (y := a3) ((congrArg xs (by decide +kernel : ((Int32.ofInt 1) + (Int32.ofInt 4)).toNatClampNeg = 5)).trans e5) ?_
  refine x_aload_n (M := (M_law nm)) dL_law_1759 rfl ?_
  refine x_iload (M := (M_law nm)) dL_law_1760 rfl ?_
  refine x_iconst (M := (M_law nm)) dL_law_1762 ?_
  refine x_iadd (M := (M_law nm)) dL_law_1763 ?_
  refine x_sald (M := (M_law nm)) dL_law_1764 (by decide) hx (vp_inD (by decide +kernel)) ?_
  refine x_top (M := (M_law nm)) (y := a4) ((congrArg xs (by decide +kernel : ((Int32.ofInt 1) + (Int32.ofInt 5)).toNatClampNeg = 6)).trans e6) ?_
  have o6495 := (f6473 277 _ (by decide) o6494)
  have o6497 := (f6473 282 _ (by decide) o6496)
  refine y_callVR (M := (M_law nm)) (M' := M_X12_find) rfl rfl dL_law_1765 m_X12_find t_3129 t_3130 t_3131 (q6493 hl c0 c1 c2 c3 c4 c5 c6 c7 o6495 o6497) rfl rfl o6495 rfl (Nat.le_of_ble_eq_true rfl) (Nat.le_of_ble_eq_true rfl) (Nat.le_of_ble_eq_true rfl) (Nat.le_of_ble_eq_true rfl) (fun h6498 f6499 w6500 => ?_)
  obtain ⟨o6501, -⟩ := w6500
  refine x_istore (M := (M_law nm)) dL_law_1768 (Nat.le_of_ble_eq_true rfl) rfl ?_
  refine x_aload_n (M := (M_law nm)) dL_law_1770 rfl ?_
  refine x_callVR (M := (M_law nm)) (M' := M_X12_thrown) rfl rfl dL_law_1771 m_X12_thrown t_2797 t_2798 t_2799 (q5762 hl o6501) rfl rfl o6501 rfl (Nat.le_of_ble_eq_true rfl) (Nat.le_of_ble_eq_true rfl) (Nat.le_of_ble_eq_true rfl) (Nat.le_of_ble_eq_true rfl) ?_
  refine x_iload (M := (M_law nm)) dL_law_1774 rfl ?_
  refine x_icmp_eq (M := (M_law nm)) (tgt := 1781) dL_law_1776 (by decide) (fun _ => ?_) (fun q => absurd q (by decide +kernel))
  refine x_iload (M := (M_law nm)) dL_law_1781 rfl ?_
  refine x_if_ne (M := (M_law nm)) (tgt := 1798) dL_law_1783 (by decide) (fun q => absurd q (by decide +kernel)) (fun _ => ?_)
  refine x_aload_n (M := (M_law nm)) dL_law_1786 rfl ?_
  refine x_iconst (M := (M_law nm)) dL_law_1787 ?_
  have o6502 := (f6499 359 _ (by decide) o6475)
  refine x_lald (M := (M_law nm)) dL_law_1788 o6502 (vp_inD (by decide +kernel)) ?_
  refine x_topl (M := (M_law nm)) (y := (Int64.ofInt 0)) (by decide +kernel) ?_
  refine x_iload (M := (M_law nm)) dL_law_1789 rfl ?_
  refine x_i2l (M := (M_law nm)) dL_law_1791 ?_
  refine x_lcmp (M := (M_law nm)) dL_law_1792 ?_
  refine x_if_eq (M := (M_law nm)) (tgt := 1798) dL_law_1793 (by decide) (fun _ => ?_) (fun q => absurd q (by decide +kernel))
  refine x_goto (M := (M_law nm)) (tgt := 2449) dL_law_1798 (by decide) ?_
  refine x_iinc (M := (M_law nm)) dL_law_2449 rfl (Nat.le_of_ble_eq_true rfl) rfl ?_
  refine x_lvs (M := (M_law nm)) (lv' := [some (.ref 0), some (.ref 32), some (.ref 277), some (.ref 359), some (.int (Int32.ofInt 7)), some (.int (Int32.ofInt 0)), some (.int (Int32.ofInt 0)), none]) (by rw [(by decide +kernel : (Int32.ofInt 1) + Int32.ofInt 6 = (Int32.ofInt 7))] <;> rfl) ?_
  refine x_goto (M := (M_law nm)) (tgt := 33) dL_law_2452 (by decide) ?_
  refine x_iload (M := (M_law nm)) dL_law_33 rfl ?_
  refine x_aload_n (M := (M_law nm)) dL_law_35 rfl ?_
  refine x_slen (M := (M_law nm)) dL_law_36 (by decide) hx ?_
  refine x_bipush (M := (M_law nm)) dL_law_37 ?_
  refine x_isub (M := (M_law nm)) dL_law_39 ?_
  refine x_icmp_gt (M := (M_law nm)) (tgt := 2455) dL_law_40 (by decide) (fun _ => ?_) (fun q => absurd q (by decide +kernel))
  refine x_iconst (M := (M_law nm)) dL_law_2455 ?_
  exact x_zret (M := (M_law nm)) dL_law_2456 rfl (by decide) rfl (Nat.le_of_ble_eq_true rfl) (Nat.le_of_ble_eq_true rfl)
theorem lop23 {l : Launch} {E : EE} (hl : l.stackTraces = false) (nm : String) {xs : Nat → Int32} (hx : E.2.2.2.2 0 = some (7, xs)) (dg : Int32) : XX l E (M_law nm) 1312 342628 8074320 (fun o _ => o = .inl (some (.int 1))) 1697 [some (.ref 0), some (.ref 32), some (.ref 277), some (.ref 359), some (.int (Int32.ofInt 1)), none, none, none] [] (HH dg) 328 2463747 := by
  obtain ⟨a0, e2⟩ : ∃ a : Int32, xs 2 = a := ⟨_, rfl⟩
  obtain ⟨a1, e3⟩ : ∃ a : Int32, xs 3 = a := ⟨_, rfl⟩
  obtain ⟨a2, e4⟩ : ∃ a : Int32, xs 4 = a := ⟨_, rfl⟩
  obtain ⟨a3, e5⟩ : ∃ a : Int32, xs 5 = a := ⟨_, rfl⟩
  obtain ⟨a4, e6⟩ : ∃ a : Int32, xs 6 = a := ⟨_, rfl⟩
  by_cases c0 : a0.toInt < 0
  · exact lc23_0 hl nm hx e2 e3 e4 e5 e6 c0 (o_32 dg) (o_277b dg)
  · by_cases c1 : 2 < a0.toInt
    · exact lc23_1 hl nm hx e2 e3 e4 e5 e6 c0 c1 (o_32 dg) (o_277b dg)
    · by_cases c2 : a1.toInt < (-1000000000)
      · exact lc23_2 hl nm hx e2 e3 e4 e5 e6 c0 c1 c2 (o_32 dg) (o_277b dg)
      · by_cases c3 : a2.toInt < (-1000000000)
        · by_cases c4 : 1000000000 < a1.toInt
          · exact lc23_3 hl nm hx e2 e3 e4 e5 e6 c0 c1 c2 c3 c4 (o_32 dg) (o_277b dg)
          · exact lc23_4 hl nm hx e2 e3 e4 e5 e6 c0 c1 c2 c3 c4 (o_32 dg) (o_277b dg)
        · by_cases c4 : 1000000000 < a3.toInt
          · by_cases c5 : 1000000000 < a1.toInt
            · exact lc23_5 hl nm hx e2 e3 e4 e5 e6 c0 c1 c2 c3 c4 c5 (o_32 dg) (o_277b dg)
            · by_cases c6 : 1000000000 < a2.toInt
              · exact lc23_6 hl nm hx e2 e3 e4 e5 e6 c0 c1 c2 c3 c4 c5 c6 (o_32 dg) (o_277b dg)
              · exact lc23_7 hl nm hx e2 e3 e4 e5 e6 c0 c1 c2 c3 c4 c5 c6 (o_32 dg) (o_277b dg)
          · by_cases c5 : 1000000000 < a4.toInt
            · by_cases c6 : 1000000000 < a1.toInt
              · exact lc23_8 hl nm hx e2 e3 e4 e5 e6 c0 c1 c2 c3 c4 c5 c6 (o_32 dg) (o_277b dg)
              · by_cases c7 : 1000000000 < a2.toInt
                · exact lc23_9 hl nm hx e2 e3 e4 e5 e6 c0 c1 c2 c3 c4 c5 c6 c7 (o_32 dg) (o_277b dg)
                · by_cases c8 : a3.toInt < (-1000000000)
                  · exact lc23_10 hl nm hx e2 e3 e4 e5 e6 c0 c1 c2 c3 c4 c5 c6 c7 c8 (o_32 dg) (o_277b dg)
                  · exact lc23_11 hl nm hx e2 e3 e4 e5 e6 c0 c1 c2 c3 c4 c5 c6 c7 c8 (o_32 dg) (o_277b dg)
            · by_cases c6 : a3.toInt < a1.toInt
              · by_cases c7 : 1000000000 < a1.toInt
                · exact lc23_12 hl nm hx e2 e3 e4 e5 e6 c0 c1 c2 c3 c4 c5 c6 c7 (o_32 dg) (o_277b dg)
                · by_cases c8 : 1000000000 < a2.toInt
                  · exact lc23_13 hl nm hx e2 e3 e4 e5 e6 c0 c1 c2 c3 c4 c5 c6 c7 c8 (o_32 dg) (o_277b dg)
                  · by_cases c9 : a3.toInt < (-1000000000)
                    · exact lc23_14 hl nm hx e2 e3 e4 e5 e6 c0 c1 c2 c3 c4 c5 c6 c7 c8 c9 (o_32 dg) (o_277b dg)
                    · by_cases c10 : a4.toInt < (-1000000000)
                      · exact lc23_15 hl nm hx e2 e3 e4 e5 e6 c0 c1 c2 c3 c4 c5 c6 c7 c8 c9 c10 (o_32 dg) (o_277b dg)
                      · exact lc23_16 hl nm hx e2 e3 e4 e5 e6 c0 c1 c2 c3 c4 c5 c6 c7 c8 c9 c10 (o_32 dg) (o_277b dg)
              · by_cases c7 : a4.toInt < a2.toInt
                · by_cases c8 : 1000000000 < a2.toInt
                  · exact lc23_17 hl nm hx e2 e3 e4 e5 e6 c0 c1 c2 c3 c4 c5 c6 c7 c8 (o_32 dg) (o_277b dg)
                  · by_cases c9 : a4.toInt < (-1000000000)
                    · exact lc23_18 hl nm hx e2 e3 e4 e5 e6 c0 c1 c2 c3 c4 c5 c6 c7 c8 c9 (o_32 dg) (o_277b dg)
                    · exact lc23_19 hl nm hx e2 e3 e4 e5 e6 c0 c1 c2 c3 c4 c5 c6 c7 c8 c9 (o_32 dg) (o_277b dg)
                · exact lc23_20 hl nm hx e2 e3 e4 e5 e6 c0 c1 c2 c3 c4 c5 c6 c7 (o_32 dg) (o_33 dg) (o_sh dg 0 (by decide)) (o_sh dg 1 (by decide)) (o_sh dg 2 (by decide)) (o_sh dg 3 (by decide)) (o_sh dg 4 (by decide)) (o_sh dg 5 (by decide)) (o_sh dg 6 (by decide)) (o_sh dg 7 (by decide)) (o_sh dg 8 (by decide)) (o_sh dg 9 (by decide)) (o_sh dg 10 (by decide)) (o_sh dg 11 (by decide)) (o_sh dg 12 (by decide)) (o_sh dg 13 (by decide)) (o_sh dg 14 (by decide)) (o_sh dg 15 (by decide)) (o_sh dg 16 (by decide)) (o_sh dg 17 (by decide)) (o_sh dg 18 (by decide)) (o_sh dg 19 (by decide)) (o_sh dg 20 (by decide)) (o_sh dg 21 (by decide)) (o_sh dg 22 (by decide)) (o_sh dg 23 (by decide)) (o_sh dg 24 (by decide)) (o_sh dg 25 (by decide)) (o_sh dg 26 (by decide)) (o_sh dg 27 (by decide)) (o_sh dg 28 (by decide)) (o_sh dg 29 (by decide)) (o_sh dg 30 (by decide)) (o_sh dg 31 (by decide)) (o_359 dg) (o_277b dg) (oMR (dg := dg) (k := 4) rfl)
end CAS
